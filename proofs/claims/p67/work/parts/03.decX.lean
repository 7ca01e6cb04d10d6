theorem dX1_init_0 : decode cX1_init 0 = .ok (.aload_n 0, 1) := by decide +kernel
theorem dX1_init_1 : decode cX1_init 1 = .ok (.invokespecial 3, 3) := by decide +kernel
theorem dX1_init_4 : decode cX1_init 4 = .ok (.aload_n 0, 1) := by decide +kernel
theorem dX1_init_5 : decode cX1_init 5 = .ok (.new 9, 3) := by decide +kernel
theorem dX1_init_8 : decode cX1_init 8 = .ok (.dup, 1) := by decide +kernel
theorem dX1_init_9 : decode cX1_init 9 = .ok (.invokespecial 11, 3) := by decide +kernel
theorem dX1_init_12 : decode cX1_init 12 = .ok (.putfield 12, 3) := by decide +kernel
theorem dX1_init_15 : decode cX1_init 15 = .ok (.aload_n 0, 1) := by decide +kernel
theorem dX1_init_16 : decode cX1_init 16 = .ok (.new 18, 3) := by decide +kernel
theorem dX1_init_19 : decode cX1_init 19 = .ok (.dup, 1) := by decide +kernel
theorem dX1_init_20 : decode cX1_init 20 = .ok (.invokespecial 20, 3) := by decide +kernel
theorem dX1_init_23 : decode cX1_init 23 = .ok (.putfield 21, 3) := by decide +kernel
theorem dX1_init_26 : decode cX1_init 26 = .ok (.aload_n 0, 1) := by decide +kernel
theorem dX1_init_27 : decode cX1_init 27 = .ok (.new 25, 3) := by decide +kernel
theorem dX1_init_30 : decode cX1_init 30 = .ok (.dup, 1) := by decide +kernel
theorem dX1_init_31 : decode cX1_init 31 = .ok (.invokespecial 27, 3) := by decide +kernel
theorem dX1_init_34 : decode cX1_init 34 = .ok (.putfield 28, 3) := by decide +kernel
theorem dX1_init_37 : decode cX1_init 37 = .ok (.aload_n 0, 1) := by decide +kernel
theorem dX1_init_38 : decode cX1_init 38 = .ok (.bipush 20, 2) := by decide +kernel
theorem dX1_init_40 : decode cX1_init 40 = .ok (.putfield 32, 3) := by decide +kernel
theorem dX1_init_43 : decode cX1_init 43 = .ok (.aload_n 0, 1) := by decide +kernel
theorem dX1_init_44 : decode cX1_init 44 = .ok (.iconst 0, 1) := by decide +kernel
theorem dX1_init_45 : decode cX1_init 45 = .ok (.putfield 36, 3) := by decide +kernel
theorem dX1_init_48 : decode cX1_init 48 = .ok (.aload_n 0, 1) := by decide +kernel
theorem dX1_init_49 : decode cX1_init 49 = .ok (.iconst 0, 1) := by decide +kernel
theorem dX1_init_50 : decode cX1_init 50 = .ok (.putfield 39, 3) := by decide +kernel
theorem dX1_init_53 : decode cX1_init 53 = .ok (.aload_n 0, 1) := by decide +kernel
theorem dX1_init_54 : decode cX1_init 54 = .ok (.iconst 0, 1) := by decide +kernel
theorem dX1_init_55 : decode cX1_init 55 = .ok (.putfield 42, 3) := by decide +kernel
theorem dX1_init_58 : decode cX1_init 58 = .ok (.aload_n 0, 1) := by decide +kernel
theorem dX1_init_59 : decode cX1_init 59 = .ok (.iconst 0, 1) := by decide +kernel
theorem dX1_init_60 : decode cX1_init 60 = .ok (.putfield 45, 3) := by decide +kernel
theorem dX1_init_63 : decode cX1_init 63 = .ok (.aload_n 0, 1) := by decide +kernel
theorem dX1_init_64 : decode cX1_init 64 = .ok (.bipush 12, 2) := by decide +kernel
theorem dX1_init_66 : decode cX1_init 66 = .ok (.putfield 48, 3) := by decide +kernel
theorem dX1_init_69 : decode cX1_init 69 = .ok (.aload_n 0, 1) := by decide +kernel
theorem dX1_init_70 : decode cX1_init 70 = .ok (.iconst 2, 1) := by decide +kernel
theorem dX1_init_71 : decode cX1_init 71 = .ok (.putfield 51, 3) := by decide +kernel
theorem dX1_init_74 : decode cX1_init 74 = .ok (.aload_n 0, 1) := by decide +kernel
theorem dX1_init_75 : decode cX1_init 75 = .ok (.iconst 1, 1) := by decide +kernel
theorem dX1_init_76 : decode cX1_init 76 = .ok (.putfield 54, 3) := by decide +kernel
theorem dX1_init_79 : decode cX1_init 79 = .ok (.aload_n 0, 1) := by decide +kernel
theorem dX1_init_80 : decode cX1_init 80 = .ok (.iconst 0, 1) := by decide +kernel
theorem dX1_init_81 : decode cX1_init 81 = .ok (.putfield 58, 3) := by decide +kernel
theorem dX1_init_84 : decode cX1_init 84 = .ok (.aload_n 0, 1) := by decide +kernel
theorem dX1_init_85 : decode cX1_init 85 = .ok (.iconst 0, 1) := by decide +kernel
theorem dX1_init_86 : decode cX1_init 86 = .ok (.putfield 61, 3) := by decide +kernel
theorem dX1_init_89 : decode cX1_init 89 = .ok (.aload_n 0, 1) := by decide +kernel
theorem dX1_init_90 : decode cX1_init 90 = .ok (.iconst 0, 1) := by decide +kernel
theorem dX1_init_91 : decode cX1_init 91 = .ok (.putfield 64, 3) := by decide +kernel
theorem dX1_init_94 : decode cX1_init 94 = .ok (.return_, 1) := by decide +kernel
theorem dX1_copyFrom_0 : decode cX1_copyFrom 0 = .ok (.aload_n 0, 1) := by decide +kernel
theorem dX1_copyFrom_1 : decode cX1_copyFrom 1 = .ok (.getfield 12, 3) := by decide +kernel
theorem dX1_copyFrom_4 : decode cX1_copyFrom 4 = .ok (.aload_n 1, 1) := by decide +kernel
theorem dX1_copyFrom_5 : decode cX1_copyFrom 5 = .ok (.getfield 12, 3) := by decide +kernel
theorem dX1_copyFrom_8 : decode cX1_copyFrom 8 = .ok (.invokevirtual 67, 3) := by decide +kernel
theorem dX1_copyFrom_11 : decode cX1_copyFrom 11 = .ok (.aload_n 0, 1) := by decide +kernel
theorem dX1_copyFrom_12 : decode cX1_copyFrom 12 = .ok (.getfield 21, 3) := by decide +kernel
theorem dX1_copyFrom_15 : decode cX1_copyFrom 15 = .ok (.aload_n 1, 1) := by decide +kernel
theorem dX1_copyFrom_16 : decode cX1_copyFrom 16 = .ok (.getfield 21, 3) := by decide +kernel
theorem dX1_copyFrom_19 : decode cX1_copyFrom 19 = .ok (.invokevirtual 71, 3) := by decide +kernel
theorem dX1_copyFrom_22 : decode cX1_copyFrom 22 = .ok (.aload_n 0, 1) := by decide +kernel
theorem dX1_copyFrom_23 : decode cX1_copyFrom 23 = .ok (.getfield 28, 3) := by decide +kernel
theorem dX1_copyFrom_26 : decode cX1_copyFrom 26 = .ok (.aload_n 1, 1) := by decide +kernel
theorem dX1_copyFrom_27 : decode cX1_copyFrom 27 = .ok (.getfield 28, 3) := by decide +kernel
theorem dX1_copyFrom_30 : decode cX1_copyFrom 30 = .ok (.invokevirtual 74, 3) := by decide +kernel
theorem dX1_copyFrom_33 : decode cX1_copyFrom 33 = .ok (.aload_n 0, 1) := by decide +kernel
theorem dX1_copyFrom_34 : decode cX1_copyFrom 34 = .ok (.aload_n 1, 1) := by decide +kernel
theorem dX1_copyFrom_35 : decode cX1_copyFrom 35 = .ok (.getfield 32, 3) := by decide +kernel
theorem dX1_copyFrom_38 : decode cX1_copyFrom 38 = .ok (.putfield 32, 3) := by decide +kernel
theorem dX1_copyFrom_41 : decode cX1_copyFrom 41 = .ok (.aload_n 0, 1) := by decide +kernel
theorem dX1_copyFrom_42 : decode cX1_copyFrom 42 = .ok (.aload_n 1, 1) := by decide +kernel
theorem dX1_copyFrom_43 : decode cX1_copyFrom 43 = .ok (.getfield 36, 3) := by decide +kernel
theorem dX1_copyFrom_46 : decode cX1_copyFrom 46 = .ok (.putfield 36, 3) := by decide +kernel
theorem dX1_copyFrom_49 : decode cX1_copyFrom 49 = .ok (.aload_n 0, 1) := by decide +kernel
theorem dX1_copyFrom_50 : decode cX1_copyFrom 50 = .ok (.aload_n 1, 1) := by decide +kernel
theorem dX1_copyFrom_51 : decode cX1_copyFrom 51 = .ok (.getfield 39, 3) := by decide +kernel
theorem dX1_copyFrom_54 : decode cX1_copyFrom 54 = .ok (.putfield 39, 3) := by decide +kernel
theorem dX1_copyFrom_57 : decode cX1_copyFrom 57 = .ok (.aload_n 0, 1) := by decide +kernel
theorem dX1_copyFrom_58 : decode cX1_copyFrom 58 = .ok (.aload_n 1, 1) := by decide +kernel
theorem dX1_copyFrom_59 : decode cX1_copyFrom 59 = .ok (.getfield 42, 3) := by decide +kernel
theorem dX1_copyFrom_62 : decode cX1_copyFrom 62 = .ok (.putfield 42, 3) := by decide +kernel
theorem dX1_copyFrom_65 : decode cX1_copyFrom 65 = .ok (.aload_n 0, 1) := by decide +kernel
theorem dX1_copyFrom_66 : decode cX1_copyFrom 66 = .ok (.aload_n 1, 1) := by decide +kernel
theorem dX1_copyFrom_67 : decode cX1_copyFrom 67 = .ok (.getfield 45, 3) := by decide +kernel
theorem dX1_copyFrom_70 : decode cX1_copyFrom 70 = .ok (.putfield 45, 3) := by decide +kernel
theorem dX1_copyFrom_73 : decode cX1_copyFrom 73 = .ok (.aload_n 0, 1) := by decide +kernel
theorem dX1_copyFrom_74 : decode cX1_copyFrom 74 = .ok (.aload_n 1, 1) := by decide +kernel
theorem dX1_copyFrom_75 : decode cX1_copyFrom 75 = .ok (.getfield 48, 3) := by decide +kernel
theorem dX1_copyFrom_78 : decode cX1_copyFrom 78 = .ok (.putfield 48, 3) := by decide +kernel
theorem dX1_copyFrom_81 : decode cX1_copyFrom 81 = .ok (.aload_n 0, 1) := by decide +kernel
theorem dX1_copyFrom_82 : decode cX1_copyFrom 82 = .ok (.aload_n 1, 1) := by decide +kernel
theorem dX1_copyFrom_83 : decode cX1_copyFrom 83 = .ok (.getfield 51, 3) := by decide +kernel
theorem dX1_copyFrom_86 : decode cX1_copyFrom 86 = .ok (.putfield 51, 3) := by decide +kernel
theorem dX1_copyFrom_89 : decode cX1_copyFrom 89 = .ok (.aload_n 0, 1) := by decide +kernel
theorem dX1_copyFrom_90 : decode cX1_copyFrom 90 = .ok (.aload_n 1, 1) := by decide +kernel
theorem dX1_copyFrom_91 : decode cX1_copyFrom 91 = .ok (.getfield 54, 3) := by decide +kernel
theorem dX1_copyFrom_94 : decode cX1_copyFrom 94 = .ok (.putfield 54, 3) := by decide +kernel
theorem dX1_copyFrom_97 : decode cX1_copyFrom 97 = .ok (.aload_n 0, 1) := by decide +kernel
theorem dX1_copyFrom_98 : decode cX1_copyFrom 98 = .ok (.aload_n 1, 1) := by decide +kernel
theorem dX1_copyFrom_99 : decode cX1_copyFrom 99 = .ok (.getfield 58, 3) := by decide +kernel
theorem dX1_copyFrom_102 : decode cX1_copyFrom 102 = .ok (.putfield 58, 3) := by decide +kernel
theorem dX1_copyFrom_105 : decode cX1_copyFrom 105 = .ok (.aload_n 0, 1) := by decide +kernel
theorem dX1_copyFrom_106 : decode cX1_copyFrom 106 = .ok (.aload_n 1, 1) := by decide +kernel
theorem dX1_copyFrom_107 : decode cX1_copyFrom 107 = .ok (.getfield 61, 3) := by decide +kernel
theorem dX1_copyFrom_110 : decode cX1_copyFrom 110 = .ok (.putfield 61, 3) := by decide +kernel
theorem dX1_copyFrom_113 : decode cX1_copyFrom 113 = .ok (.aload_n 0, 1) := by decide +kernel
theorem dX1_copyFrom_114 : decode cX1_copyFrom 114 = .ok (.aload_n 1, 1) := by decide +kernel
theorem dX1_copyFrom_115 : decode cX1_copyFrom 115 = .ok (.getfield 64, 3) := by decide +kernel
theorem dX1_copyFrom_118 : decode cX1_copyFrom 118 = .ok (.putfield 64, 3) := by decide +kernel
theorem dX1_copyFrom_121 : decode cX1_copyFrom 121 = .ok (.return_, 1) := by decide +kernel
theorem dX1_refusal_0 : decode cX1_refusal 0 = .ok (.getstatic 77, 3) := by decide +kernel
theorem dX1_refusal_3 : decode cX1_refusal 3 = .ok (.aload_n 1, 1) := by decide +kernel
theorem dX1_refusal_4 : decode cX1_refusal 4 = .ok (.invokevirtual 83, 3) := by decide +kernel
theorem dX1_refusal_7 : decode cX1_refusal 7 = .ok (.iaload, 1) := by decide +kernel
theorem dX1_refusal_8 : decode cX1_refusal 8 = .ok (.tableswitch 323 1 12 #[64, 91, 98, 126, 195, 217, 226, 253, 277, 289, 289, 301], 64) := by decide +kernel
theorem dX1_refusal_72 : decode cX1_refusal 72 = .ok (.iload_n 2, 1) := by decide +kernel
theorem dX1_refusal_73 : decode cX1_refusal 73 = .ok (.iconst 2, 1) := by decide +kernel
theorem dX1_refusal_74 : decode cX1_refusal 74 = .ok (.bipush 16, 2) := by decide +kernel
theorem dX1_refusal_76 : decode cX1_refusal 76 = .ok (.invokestatic 89, 3) := by decide +kernel
theorem dX1_refusal_79 : decode cX1_refusal 79 = .ok (.aload_n 0, 1) := by decide +kernel
theorem dX1_refusal_80 : decode cX1_refusal 80 = .ok (.getfield 12, 3) := by decide +kernel
theorem dX1_refusal_83 : decode cX1_refusal 83 = .ok (.getfield 93, 3) := by decide +kernel
theorem dX1_refusal_86 : decode cX1_refusal 86 = .ok (.iconst 4, 1) := by decide +kernel
theorem dX1_refusal_87 : decode cX1_refusal 87 = .ok (.if_icmp .ge 7, 3) := by decide +kernel
theorem dX1_refusal_90 : decode cX1_refusal 90 = .ok (.iconst 1, 1) := by decide +kernel
theorem dX1_refusal_91 : decode cX1_refusal 91 = .ok (.goto 4, 3) := by decide +kernel
theorem dX1_refusal_94 : decode cX1_refusal 94 = .ok (.iconst 0, 1) := by decide +kernel
theorem dX1_refusal_95 : decode cX1_refusal 95 = .ok (.invokestatic 96, 3) := by decide +kernel
theorem dX1_refusal_98 : decode cX1_refusal 98 = .ok (.areturn, 1) := by decide +kernel
theorem dX1_refusal_99 : decode cX1_refusal 99 = .ok (.aload_n 0, 1) := by decide +kernel
theorem dX1_refusal_100 : decode cX1_refusal 100 = .ok (.iload_n 2, 1) := by decide +kernel
theorem dX1_refusal_101 : decode cX1_refusal 101 = .ok (.iload_n 3, 1) := by decide +kernel
theorem dX1_refusal_102 : decode cX1_refusal 102 = .ok (.invokevirtual 100, 3) := by decide +kernel
theorem dX1_refusal_105 : decode cX1_refusal 105 = .ok (.areturn, 1) := by decide +kernel
theorem dX1_refusal_106 : decode cX1_refusal 106 = .ok (.aload_n 0, 1) := by decide +kernel
theorem dX1_refusal_107 : decode cX1_refusal 107 = .ok (.getfield 12, 3) := by decide +kernel
theorem dX1_refusal_110 : decode cX1_refusal 110 = .ok (.iload_n 2, 1) := by decide +kernel
theorem dX1_refusal_111 : decode cX1_refusal 111 = .ok (.invokevirtual 104, 3) := by decide +kernel
theorem dX1_refusal_114 : decode cX1_refusal 114 = .ok (.ifCond .eq 16, 3) := by decide +kernel
theorem dX1_refusal_117 : decode cX1_refusal 117 = .ok (.iload_n 3, 1) := by decide +kernel
theorem dX1_refusal_118 : decode cX1_refusal 118 = .ok (.iconst 0, 1) := by decide +kernel
theorem dX1_refusal_119 : decode cX1_refusal 119 = .ok (.iconst 5, 1) := by decide +kernel
theorem dX1_refusal_120 : decode cX1_refusal 120 = .ok (.invokestatic 89, 3) := by decide +kernel
theorem dX1_refusal_123 : decode cX1_refusal 123 = .ok (.iconst 1, 1) := by decide +kernel
theorem dX1_refusal_124 : decode cX1_refusal 124 = .ok (.invokestatic 96, 3) := by decide +kernel
theorem dX1_refusal_127 : decode cX1_refusal 127 = .ok (.goto 6, 3) := by decide +kernel
theorem dX1_refusal_130 : decode cX1_refusal 130 = .ok (.getstatic 108, 3) := by decide +kernel
theorem dX1_refusal_133 : decode cX1_refusal 133 = .ok (.areturn, 1) := by decide +kernel
theorem dX1_refusal_134 : decode cX1_refusal 134 = .ok (.iload_n 2, 1) := by decide +kernel
theorem dX1_refusal_135 : decode cX1_refusal 135 = .ok (.iconst 0, 1) := by decide +kernel
theorem dX1_refusal_136 : decode cX1_refusal 136 = .ok (.bipush 9, 2) := by decide +kernel
theorem dX1_refusal_138 : decode cX1_refusal 138 = .ok (.invokestatic 89, 3) := by decide +kernel
theorem dX1_refusal_141 : decode cX1_refusal 141 = .ok (.ifCond .eq 40, 3) := by decide +kernel
theorem dX1_refusal_144 : decode cX1_refusal 144 = .ok (.iload_n 3, 1) := by decide +kernel
theorem dX1_refusal_145 : decode cX1_refusal 145 = .ok (.iconst 1, 1) := by decide +kernel
theorem dX1_refusal_146 : decode cX1_refusal 146 = .ok (.bipush 6, 2) := by decide +kernel
theorem dX1_refusal_148 : decode cX1_refusal 148 = .ok (.invokestatic 89, 3) := by decide +kernel
theorem dX1_refusal_151 : decode cX1_refusal 151 = .ok (.ifCond .eq 30, 3) := by decide +kernel
theorem dX1_refusal_154 : decode cX1_refusal 154 = .ok (.iload 4, 2) := by decide +kernel
theorem dX1_refusal_156 : decode cX1_refusal 156 = .ok (.bipush 60, 2) := by decide +kernel
theorem dX1_refusal_158 : decode cX1_refusal 158 = .ok (.bipush 100, 2) := by decide +kernel
theorem dX1_refusal_160 : decode cX1_refusal 160 = .ok (.invokestatic 89, 3) := by decide +kernel
theorem dX1_refusal_163 : decode cX1_refusal 163 = .ok (.ifCond .eq 18, 3) := by decide +kernel
theorem dX1_refusal_166 : decode cX1_refusal 166 = .ok (.iload 5, 2) := by decide +kernel
theorem dX1_refusal_168 : decode cX1_refusal 168 = .ok (.iconst 1, 1) := by decide +kernel
theorem dX1_refusal_169 : decode cX1_refusal 169 = .ok (.bipush 9, 2) := by decide +kernel
theorem dX1_refusal_171 : decode cX1_refusal 171 = .ok (.invokestatic 89, 3) := by decide +kernel
theorem dX1_refusal_174 : decode cX1_refusal 174 = .ok (.ifCond .eq 7, 3) := by decide +kernel
theorem dX1_refusal_177 : decode cX1_refusal 177 = .ok (.iconst 1, 1) := by decide +kernel
theorem dX1_refusal_178 : decode cX1_refusal 178 = .ok (.goto 4, 3) := by decide +kernel
theorem dX1_refusal_181 : decode cX1_refusal 181 = .ok (.iconst 0, 1) := by decide +kernel
theorem dX1_refusal_182 : decode cX1_refusal 182 = .ok (.aload_n 0, 1) := by decide +kernel
theorem dX1_refusal_183 : decode cX1_refusal 183 = .ok (.getfield 21, 3) := by decide +kernel
theorem dX1_refusal_186 : decode cX1_refusal 186 = .ok (.getfield 114, 3) := by decide +kernel
theorem dX1_refusal_189 : decode cX1_refusal 189 = .ok (.bipush 10, 2) := by decide +kernel
theorem dX1_refusal_191 : decode cX1_refusal 191 = .ok (.if_icmp .ge 7, 3) := by decide +kernel
theorem dX1_refusal_194 : decode cX1_refusal 194 = .ok (.iconst 1, 1) := by decide +kernel
theorem dX1_refusal_195 : decode cX1_refusal 195 = .ok (.goto 4, 3) := by decide +kernel
theorem dX1_refusal_198 : decode cX1_refusal 198 = .ok (.iconst 0, 1) := by decide +kernel
theorem dX1_refusal_199 : decode cX1_refusal 199 = .ok (.invokestatic 96, 3) := by decide +kernel
theorem dX1_refusal_202 : decode cX1_refusal 202 = .ok (.areturn, 1) := by decide +kernel
theorem dX1_refusal_203 : decode cX1_refusal 203 = .ok (.aload_n 0, 1) := by decide +kernel
theorem dX1_refusal_204 : decode cX1_refusal 204 = .ok (.getfield 21, 3) := by decide +kernel
theorem dX1_refusal_207 : decode cX1_refusal 207 = .ok (.iload_n 2, 1) := by decide +kernel
theorem dX1_refusal_208 : decode cX1_refusal 208 = .ok (.invokevirtual 115, 3) := by decide +kernel
theorem dX1_refusal_211 : decode cX1_refusal 211 = .ok (.iconst (-1), 1) := by decide +kernel
theorem dX1_refusal_212 : decode cX1_refusal 212 = .ok (.if_icmp .ne 9, 3) := by decide +kernel
theorem dX1_refusal_215 : decode cX1_refusal 215 = .ok (.getstatic 119, 3) := by decide +kernel
theorem dX1_refusal_218 : decode cX1_refusal 218 = .ok (.goto 6, 3) := by decide +kernel
theorem dX1_refusal_221 : decode cX1_refusal 221 = .ok (.getstatic 122, 3) := by decide +kernel
theorem dX1_refusal_224 : decode cX1_refusal 224 = .ok (.areturn, 1) := by decide +kernel
theorem dX1_refusal_225 : decode cX1_refusal 225 = .ok (.iconst 1, 1) := by decide +kernel
theorem dX1_refusal_226 : decode cX1_refusal 226 = .ok (.aload_n 0, 1) := by decide +kernel
theorem dX1_refusal_227 : decode cX1_refusal 227 = .ok (.invokevirtual 125, 3) := by decide +kernel
theorem dX1_refusal_230 : decode cX1_refusal 230 = .ok (.invokestatic 96, 3) := by decide +kernel
theorem dX1_refusal_233 : decode cX1_refusal 233 = .ok (.areturn, 1) := by decide +kernel
theorem dX1_refusal_234 : decode cX1_refusal 234 = .ok (.iload_n 2, 1) := by decide +kernel
theorem dX1_refusal_235 : decode cX1_refusal 235 = .ok (.iconst 1, 1) := by decide +kernel
theorem dX1_refusal_236 : decode cX1_refusal 236 = .ok (.bipush 20, 2) := by decide +kernel
theorem dX1_refusal_238 : decode cX1_refusal 238 = .ok (.invokestatic 89, 3) := by decide +kernel
theorem dX1_refusal_241 : decode cX1_refusal 241 = .ok (.iload_n 2, 1) := by decide +kernel
theorem dX1_refusal_242 : decode cX1_refusal 242 = .ok (.bipush 20, 2) := by decide +kernel
theorem dX1_refusal_244 : decode cX1_refusal 244 = .ok (.aload_n 0, 1) := by decide +kernel
theorem dX1_refusal_245 : decode cX1_refusal 245 = .ok (.getfield 32, 3) := by decide +kernel
theorem dX1_refusal_248 : decode cX1_refusal 248 = .ok (.isub, 1) := by decide +kernel
theorem dX1_refusal_249 : decode cX1_refusal 249 = .ok (.if_icmp .gt 7, 3) := by decide +kernel
theorem dX1_refusal_252 : decode cX1_refusal 252 = .ok (.iconst 1, 1) := by decide +kernel
theorem dX1_refusal_253 : decode cX1_refusal 253 = .ok (.goto 4, 3) := by decide +kernel
theorem dX1_refusal_256 : decode cX1_refusal 256 = .ok (.iconst 0, 1) := by decide +kernel
theorem dX1_refusal_257 : decode cX1_refusal 257 = .ok (.invokestatic 96, 3) := by decide +kernel
theorem dX1_refusal_260 : decode cX1_refusal 260 = .ok (.areturn, 1) := by decide +kernel
theorem dX1_refusal_261 : decode cX1_refusal 261 = .ok (.iload_n 2, 1) := by decide +kernel
theorem dX1_refusal_262 : decode cX1_refusal 262 = .ok (.iconst 1, 1) := by decide +kernel
theorem dX1_refusal_263 : decode cX1_refusal 263 = .ok (.bipush 80, 2) := by decide +kernel
theorem dX1_refusal_265 : decode cX1_refusal 265 = .ok (.invokestatic 89, 3) := by decide +kernel
theorem dX1_refusal_268 : decode cX1_refusal 268 = .ok (.iload_n 2, 1) := by decide +kernel
theorem dX1_refusal_269 : decode cX1_refusal 269 = .ok (.aload_n 0, 1) := by decide +kernel
theorem dX1_refusal_270 : decode cX1_refusal 270 = .ok (.getfield 36, 3) := by decide +kernel
theorem dX1_refusal_273 : decode cX1_refusal 273 = .ok (.if_icmp .gt 7, 3) := by decide +kernel
theorem dX1_refusal_276 : decode cX1_refusal 276 = .ok (.iconst 1, 1) := by decide +kernel
theorem dX1_refusal_277 : decode cX1_refusal 277 = .ok (.goto 4, 3) := by decide +kernel
theorem dX1_refusal_280 : decode cX1_refusal 280 = .ok (.iconst 0, 1) := by decide +kernel
theorem dX1_refusal_281 : decode cX1_refusal 281 = .ok (.invokestatic 96, 3) := by decide +kernel
theorem dX1_refusal_284 : decode cX1_refusal 284 = .ok (.areturn, 1) := by decide +kernel
theorem dX1_refusal_285 : decode cX1_refusal 285 = .ok (.iload_n 2, 1) := by decide +kernel
theorem dX1_refusal_286 : decode cX1_refusal 286 = .ok (.iconst 1, 1) := by decide +kernel
theorem dX1_refusal_287 : decode cX1_refusal 287 = .ok (.bipush 120, 2) := by decide +kernel
theorem dX1_refusal_289 : decode cX1_refusal 289 = .ok (.invokestatic 89, 3) := by decide +kernel
theorem dX1_refusal_292 : decode cX1_refusal 292 = .ok (.iconst 1, 1) := by decide +kernel
theorem dX1_refusal_293 : decode cX1_refusal 293 = .ok (.invokestatic 96, 3) := by decide +kernel
theorem dX1_refusal_296 : decode cX1_refusal 296 = .ok (.areturn, 1) := by decide +kernel
theorem dX1_refusal_297 : decode cX1_refusal 297 = .ok (.iload_n 2, 1) := by decide +kernel
theorem dX1_refusal_298 : decode cX1_refusal 298 = .ok (.iconst 1, 1) := by decide +kernel
theorem dX1_refusal_299 : decode cX1_refusal 299 = .ok (.bipush 80, 2) := by decide +kernel
theorem dX1_refusal_301 : decode cX1_refusal 301 = .ok (.invokestatic 89, 3) := by decide +kernel
theorem dX1_refusal_304 : decode cX1_refusal 304 = .ok (.iconst 1, 1) := by decide +kernel
theorem dX1_refusal_305 : decode cX1_refusal 305 = .ok (.invokestatic 96, 3) := by decide +kernel
theorem dX1_refusal_308 : decode cX1_refusal 308 = .ok (.areturn, 1) := by decide +kernel
theorem dX1_refusal_309 : decode cX1_refusal 309 = .ok (.iconst 1, 1) := by decide +kernel
theorem dX1_refusal_310 : decode cX1_refusal 310 = .ok (.aload_n 0, 1) := by decide +kernel
theorem dX1_refusal_311 : decode cX1_refusal 311 = .ok (.getfield 28, 3) := by decide +kernel
theorem dX1_refusal_314 : decode cX1_refusal 314 = .ok (.getfield 129, 3) := by decide +kernel
theorem dX1_refusal_317 : decode cX1_refusal 317 = .ok (.bipush 14, 2) := by decide +kernel
theorem dX1_refusal_319 : decode cX1_refusal 319 = .ok (.if_icmp .ge 7, 3) := by decide +kernel
theorem dX1_refusal_322 : decode cX1_refusal 322 = .ok (.iconst 1, 1) := by decide +kernel
theorem dX1_refusal_323 : decode cX1_refusal 323 = .ok (.goto 4, 3) := by decide +kernel
theorem dX1_refusal_326 : decode cX1_refusal 326 = .ok (.iconst 0, 1) := by decide +kernel
theorem dX1_refusal_327 : decode cX1_refusal 327 = .ok (.invokestatic 96, 3) := by decide +kernel
theorem dX1_refusal_330 : decode cX1_refusal 330 = .ok (.areturn, 1) := by decide +kernel
theorem dX1_refusal_331 : decode cX1_refusal 331 = .ok (.getstatic 122, 3) := by decide +kernel
theorem dX1_refusal_334 : decode cX1_refusal 334 = .ok (.areturn, 1) := by decide +kernel
theorem dX1_perform_0 : decode cX1_perform 0 = .ok (.getstatic 77, 3) := by decide +kernel
theorem dX1_perform_3 : decode cX1_perform 3 = .ok (.aload_n 1, 1) := by decide +kernel
theorem dX1_perform_4 : decode cX1_perform 4 = .ok (.invokevirtual 83, 3) := by decide +kernel
theorem dX1_perform_7 : decode cX1_perform 7 = .ok (.iaload, 1) := by decide +kernel
theorem dX1_perform_8 : decode cX1_perform 8 = .ok (.tableswitch 208 1 13 #[68, 79, 103, 113, 127, 150, 155, 170, 176, 182, 188, 208, 194], 68) := by decide +kernel
theorem dX1_perform_76 : decode cX1_perform 76 = .ok (.aload_n 0, 1) := by decide +kernel
theorem dX1_perform_77 : decode cX1_perform 77 = .ok (.getfield 12, 3) := by decide +kernel
theorem dX1_perform_80 : decode cX1_perform 80 = .ok (.iload_n 2, 1) := by decide +kernel
theorem dX1_perform_81 : decode cX1_perform 81 = .ok (.iconst 2, 1) := by decide +kernel
theorem dX1_perform_82 : decode cX1_perform 82 = .ok (.imul, 1) := by decide +kernel
theorem dX1_perform_83 : decode cX1_perform 83 = .ok (.invokevirtual 130, 3) := by decide +kernel
theorem dX1_perform_86 : decode cX1_perform 86 = .ok (.ireturn, 1) := by decide +kernel
theorem dX1_perform_87 : decode cX1_perform 87 = .ok (.aload_n 0, 1) := by decide +kernel
theorem dX1_perform_88 : decode cX1_perform 88 = .ok (.dup, 1) := by decide +kernel
theorem dX1_perform_89 : decode cX1_perform 89 = .ok (.getfield 45, 3) := by decide +kernel
theorem dX1_perform_92 : decode cX1_perform 92 = .ok (.iload_n 3, 1) := by decide +kernel
theorem dX1_perform_93 : decode cX1_perform 93 = .ok (.iconst 2, 1) := by decide +kernel
theorem dX1_perform_94 : decode cX1_perform 94 = .ok (.imul, 1) := by decide +kernel
theorem dX1_perform_95 : decode cX1_perform 95 = .ok (.iadd, 1) := by decide +kernel
theorem dX1_perform_96 : decode cX1_perform 96 = .ok (.putfield 45, 3) := by decide +kernel
theorem dX1_perform_99 : decode cX1_perform 99 = .ok (.aload_n 0, 1) := by decide +kernel
theorem dX1_perform_100 : decode cX1_perform 100 = .ok (.getfield 12, 3) := by decide +kernel
theorem dX1_perform_103 : decode cX1_perform 103 = .ok (.iload_n 2, 1) := by decide +kernel
theorem dX1_perform_104 : decode cX1_perform 104 = .ok (.iload_n 3, 1) := by decide +kernel
theorem dX1_perform_105 : decode cX1_perform 105 = .ok (.iconst 2, 1) := by decide +kernel
theorem dX1_perform_106 : decode cX1_perform 106 = .ok (.imul, 1) := by decide +kernel
theorem dX1_perform_107 : decode cX1_perform 107 = .ok (.invokevirtual 133, 3) := by decide +kernel
theorem dX1_perform_110 : decode cX1_perform 110 = .ok (.ireturn, 1) := by decide +kernel
theorem dX1_perform_111 : decode cX1_perform 111 = .ok (.aload_n 0, 1) := by decide +kernel
theorem dX1_perform_112 : decode cX1_perform 112 = .ok (.getfield 12, 3) := by decide +kernel
theorem dX1_perform_115 : decode cX1_perform 115 = .ok (.iload_n 2, 1) := by decide +kernel
theorem dX1_perform_116 : decode cX1_perform 116 = .ok (.iload_n 3, 1) := by decide +kernel
theorem dX1_perform_117 : decode cX1_perform 117 = .ok (.invokevirtual 137, 3) := by decide +kernel
theorem dX1_perform_120 : decode cX1_perform 120 = .ok (.ireturn, 1) := by decide +kernel
theorem dX1_perform_121 : decode cX1_perform 121 = .ok (.aload_n 0, 1) := by decide +kernel
theorem dX1_perform_122 : decode cX1_perform 122 = .ok (.getfield 21, 3) := by decide +kernel
theorem dX1_perform_125 : decode cX1_perform 125 = .ok (.iload_n 2, 1) := by decide +kernel
theorem dX1_perform_126 : decode cX1_perform 126 = .ok (.iload_n 3, 1) := by decide +kernel
theorem dX1_perform_127 : decode cX1_perform 127 = .ok (.iload 4, 2) := by decide +kernel
theorem dX1_perform_129 : decode cX1_perform 129 = .ok (.iload 5, 2) := by decide +kernel
theorem dX1_perform_131 : decode cX1_perform 131 = .ok (.invokevirtual 140, 3) := by decide +kernel
theorem dX1_perform_134 : decode cX1_perform 134 = .ok (.ireturn, 1) := by decide +kernel
theorem dX1_perform_135 : decode cX1_perform 135 = .ok (.aload_n 0, 1) := by decide +kernel
theorem dX1_perform_136 : decode cX1_perform 136 = .ok (.getfield 21, 3) := by decide +kernel
theorem dX1_perform_139 : decode cX1_perform 139 = .ok (.aload_n 0, 1) := by decide +kernel
theorem dX1_perform_140 : decode cX1_perform 140 = .ok (.getfield 21, 3) := by decide +kernel
theorem dX1_perform_143 : decode cX1_perform 143 = .ok (.iload_n 2, 1) := by decide +kernel
theorem dX1_perform_144 : decode cX1_perform 144 = .ok (.invokevirtual 115, 3) := by decide +kernel
theorem dX1_perform_147 : decode cX1_perform 147 = .ok (.invokevirtual 143, 3) := by decide +kernel
theorem dX1_perform_150 : decode cX1_perform 150 = .ok (.aload_n 0, 1) := by decide +kernel
theorem dX1_perform_151 : decode cX1_perform 151 = .ok (.getfield 21, 3) := by decide +kernel
theorem dX1_perform_154 : decode cX1_perform 154 = .ok (.getfield 114, 3) := by decide +kernel
theorem dX1_perform_157 : decode cX1_perform 157 = .ok (.ireturn, 1) := by decide +kernel
theorem dX1_perform_158 : decode cX1_perform 158 = .ok (.aload_n 0, 1) := by decide +kernel
theorem dX1_perform_159 : decode cX1_perform 159 = .ok (.invokevirtual 147, 3) := by decide +kernel
theorem dX1_perform_162 : decode cX1_perform 162 = .ok (.ireturn, 1) := by decide +kernel
theorem dX1_perform_163 : decode cX1_perform 163 = .ok (.aload_n 0, 1) := by decide +kernel
theorem dX1_perform_164 : decode cX1_perform 164 = .ok (.dup, 1) := by decide +kernel
theorem dX1_perform_165 : decode cX1_perform 165 = .ok (.getfield 32, 3) := by decide +kernel
theorem dX1_perform_168 : decode cX1_perform 168 = .ok (.iload_n 2, 1) := by decide +kernel
theorem dX1_perform_169 : decode cX1_perform 169 = .ok (.iadd, 1) := by decide +kernel
theorem dX1_perform_170 : decode cX1_perform 170 = .ok (.putfield 32, 3) := by decide +kernel
theorem dX1_perform_173 : decode cX1_perform 173 = .ok (.aload_n 0, 1) := by decide +kernel
theorem dX1_perform_174 : decode cX1_perform 174 = .ok (.getfield 32, 3) := by decide +kernel
theorem dX1_perform_177 : decode cX1_perform 177 = .ok (.ireturn, 1) := by decide +kernel
theorem dX1_perform_178 : decode cX1_perform 178 = .ok (.aload_n 0, 1) := by decide +kernel
theorem dX1_perform_179 : decode cX1_perform 179 = .ok (.iload_n 2, 1) := by decide +kernel
theorem dX1_perform_180 : decode cX1_perform 180 = .ok (.invokevirtual 150, 3) := by decide +kernel
theorem dX1_perform_183 : decode cX1_perform 183 = .ok (.ireturn, 1) := by decide +kernel
theorem dX1_perform_184 : decode cX1_perform 184 = .ok (.aload_n 0, 1) := by decide +kernel
theorem dX1_perform_185 : decode cX1_perform 185 = .ok (.iload_n 2, 1) := by decide +kernel
theorem dX1_perform_186 : decode cX1_perform 186 = .ok (.invokevirtual 153, 3) := by decide +kernel
theorem dX1_perform_189 : decode cX1_perform 189 = .ok (.ireturn, 1) := by decide +kernel
theorem dX1_perform_190 : decode cX1_perform 190 = .ok (.aload_n 0, 1) := by decide +kernel
theorem dX1_perform_191 : decode cX1_perform 191 = .ok (.iload_n 2, 1) := by decide +kernel
theorem dX1_perform_192 : decode cX1_perform 192 = .ok (.invokevirtual 156, 3) := by decide +kernel
theorem dX1_perform_195 : decode cX1_perform 195 = .ok (.ireturn, 1) := by decide +kernel
theorem dX1_perform_196 : decode cX1_perform 196 = .ok (.aload_n 0, 1) := by decide +kernel
theorem dX1_perform_197 : decode cX1_perform 197 = .ok (.iload_n 2, 1) := by decide +kernel
theorem dX1_perform_198 : decode cX1_perform 198 = .ok (.invokevirtual 159, 3) := by decide +kernel
theorem dX1_perform_201 : decode cX1_perform 201 = .ok (.ireturn, 1) := by decide +kernel
theorem dX1_perform_202 : decode cX1_perform 202 = .ok (.aload_n 0, 1) := by decide +kernel
theorem dX1_perform_203 : decode cX1_perform 203 = .ok (.iload_n 2, 1) := by decide +kernel
theorem dX1_perform_204 : decode cX1_perform 204 = .ok (.ifCond .eq 7, 3) := by decide +kernel
theorem dX1_perform_207 : decode cX1_perform 207 = .ok (.iconst 1, 1) := by decide +kernel
theorem dX1_perform_208 : decode cX1_perform 208 = .ok (.goto 4, 3) := by decide +kernel
theorem dX1_perform_211 : decode cX1_perform 211 = .ok (.iconst 0, 1) := by decide +kernel
theorem dX1_perform_212 : decode cX1_perform 212 = .ok (.invokevirtual 162, 3) := by decide +kernel
theorem dX1_perform_215 : decode cX1_perform 215 = .ok (.ireturn, 1) := by decide +kernel
theorem dX1_perform_216 : decode cX1_perform 216 = .ok (.aload_n 0, 1) := by decide +kernel
theorem dX1_perform_217 : decode cX1_perform 217 = .ok (.getfield 28, 3) := by decide +kernel
theorem dX1_perform_220 : decode cX1_perform 220 = .ok (.invokevirtual 166, 3) := by decide +kernel
theorem dX1_perform_223 : decode cX1_perform 223 = .ok (.ireturn, 1) := by decide +kernel
theorem dX1_unless_0 : decode cX1_unless 0 = .ok (.iload_n 0, 1) := by decide +kernel
theorem dX1_unless_1 : decode cX1_unless 1 = .ok (.ifCond .ne 7, 3) := by decide +kernel
theorem dX1_unless_4 : decode cX1_unless 4 = .ok (.getstatic 169, 3) := by decide +kernel
theorem dX1_unless_7 : decode cX1_unless 7 = .ok (.areturn, 1) := by decide +kernel
theorem dX1_unless_8 : decode cX1_unless 8 = .ok (.iload_n 1, 1) := by decide +kernel
theorem dX1_unless_9 : decode cX1_unless 9 = .ok (.ifCond .eq 9, 3) := by decide +kernel
theorem dX1_unless_12 : decode cX1_unless 12 = .ok (.getstatic 122, 3) := by decide +kernel
theorem dX1_unless_15 : decode cX1_unless 15 = .ok (.goto 6, 3) := by decide +kernel
theorem dX1_unless_18 : decode cX1_unless 18 = .ok (.getstatic 172, 3) := by decide +kernel
theorem dX1_unless_21 : decode cX1_unless 21 = .ok (.areturn, 1) := by decide +kernel
theorem dX1_refusalToFill_0 : decode cX1_refusalToFill 0 = .ok (.aload_n 0, 1) := by decide +kernel
theorem dX1_refusalToFill_1 : decode cX1_refusalToFill 1 = .ok (.getfield 12, 3) := by decide +kernel
theorem dX1_refusalToFill_4 : decode cX1_refusalToFill 4 = .ok (.iload_n 1, 1) := by decide +kernel
theorem dX1_refusalToFill_5 : decode cX1_refusalToFill 5 = .ok (.invokevirtual 104, 3) := by decide +kernel
theorem dX1_refusalToFill_8 : decode cX1_refusalToFill 8 = .ok (.ifCond .ne 7, 3) := by decide +kernel
theorem dX1_refusalToFill_11 : decode cX1_refusalToFill 11 = .ok (.getstatic 108, 3) := by decide +kernel
theorem dX1_refusalToFill_14 : decode cX1_refusalToFill 14 = .ok (.areturn, 1) := by decide +kernel
theorem dX1_refusalToFill_15 : decode cX1_refusalToFill 15 = .ok (.aload_n 0, 1) := by decide +kernel
theorem dX1_refusalToFill_16 : decode cX1_refusalToFill 16 = .ok (.getfield 12, 3) := by decide +kernel
theorem dX1_refusalToFill_19 : decode cX1_refusalToFill 19 = .ok (.getfield 175, 3) := by decide +kernel
theorem dX1_refusalToFill_22 : decode cX1_refusalToFill 22 = .ok (.iload_n 1, 1) := by decide +kernel
theorem dX1_refusalToFill_23 : decode cX1_refusalToFill 23 = .ok (.iaload, 1) := by decide +kernel
theorem dX1_refusalToFill_24 : decode cX1_refusalToFill 24 = .ok (.iload_n 2, 1) := by decide +kernel
theorem dX1_refusalToFill_25 : decode cX1_refusalToFill 25 = .ok (.iconst 2, 1) := by decide +kernel
theorem dX1_refusalToFill_26 : decode cX1_refusalToFill 26 = .ok (.imul, 1) := by decide +kernel
theorem dX1_refusalToFill_27 : decode cX1_refusalToFill 27 = .ok (.iadd, 1) := by decide +kernel
theorem dX1_refusalToFill_28 : decode cX1_refusalToFill 28 = .ok (.istore_n 3, 1) := by decide +kernel
theorem dX1_refusalToFill_29 : decode cX1_refusalToFill 29 = .ok (.iload_n 2, 1) := by decide +kernel
theorem dX1_refusalToFill_30 : decode cX1_refusalToFill 30 = .ok (.iconst 1, 1) := by decide +kernel
theorem dX1_refusalToFill_31 : decode cX1_refusalToFill 31 = .ok (.bipush 16, 2) := by decide +kernel
theorem dX1_refusalToFill_33 : decode cX1_refusalToFill 33 = .ok (.invokestatic 89, 3) := by decide +kernel
theorem dX1_refusalToFill_36 : decode cX1_refusalToFill 36 = .ok (.iload_n 3, 1) := by decide +kernel
theorem dX1_refusalToFill_37 : decode cX1_refusalToFill 37 = .ok (.aload_n 0, 1) := by decide +kernel
theorem dX1_refusalToFill_38 : decode cX1_refusalToFill 38 = .ok (.getfield 12, 3) := by decide +kernel
theorem dX1_refusalToFill_41 : decode cX1_refusalToFill 41 = .ok (.getfield 178, 3) := by decide +kernel
theorem dX1_refusalToFill_44 : decode cX1_refusalToFill 44 = .ok (.iload_n 1, 1) := by decide +kernel
theorem dX1_refusalToFill_45 : decode cX1_refusalToFill 45 = .ok (.iaload, 1) := by decide +kernel
theorem dX1_refusalToFill_46 : decode cX1_refusalToFill 46 = .ok (.if_icmp .gt 7, 3) := by decide +kernel
theorem dX1_refusalToFill_49 : decode cX1_refusalToFill 49 = .ok (.iconst 1, 1) := by decide +kernel
theorem dX1_refusalToFill_50 : decode cX1_refusalToFill 50 = .ok (.goto 4, 3) := by decide +kernel
theorem dX1_refusalToFill_53 : decode cX1_refusalToFill 53 = .ok (.iconst 0, 1) := by decide +kernel
theorem dX1_refusalToFill_54 : decode cX1_refusalToFill 54 = .ok (.invokestatic 96, 3) := by decide +kernel
theorem dX1_refusalToFill_57 : decode cX1_refusalToFill 57 = .ok (.areturn, 1) := by decide +kernel
theorem dX1_kettleForFirst_0 : decode cX1_kettleForFirst 0 = .ok (.aload_n 0, 1) := by decide +kernel
theorem dX1_kettleForFirst_1 : decode cX1_kettleForFirst 1 = .ok (.getfield 21, 3) := by decide +kernel
theorem dX1_kettleForFirst_4 : decode cX1_kettleForFirst 4 = .ok (.getfield 114, 3) := by decide +kernel
theorem dX1_kettleForFirst_7 : decode cX1_kettleForFirst 7 = .ok (.ifCond .le 31, 3) := by decide +kernel
theorem dX1_kettleForFirst_10 : decode cX1_kettleForFirst 10 = .ok (.aload_n 0, 1) := by decide +kernel
theorem dX1_kettleForFirst_11 : decode cX1_kettleForFirst 11 = .ok (.getfield 12, 3) := by decide +kernel
theorem dX1_kettleForFirst_14 : decode cX1_kettleForFirst 14 = .ok (.aload_n 0, 1) := by decide +kernel
theorem dX1_kettleForFirst_15 : decode cX1_kettleForFirst 15 = .ok (.getfield 21, 3) := by decide +kernel
theorem dX1_kettleForFirst_18 : decode cX1_kettleForFirst 18 = .ok (.getfield 181, 3) := by decide +kernel
theorem dX1_kettleForFirst_21 : decode cX1_kettleForFirst 21 = .ok (.iconst 0, 1) := by decide +kernel
theorem dX1_kettleForFirst_22 : decode cX1_kettleForFirst 22 = .ok (.iaload, 1) := by decide +kernel
theorem dX1_kettleForFirst_23 : decode cX1_kettleForFirst 23 = .ok (.aload_n 0, 1) := by decide +kernel
theorem dX1_kettleForFirst_24 : decode cX1_kettleForFirst 24 = .ok (.getfield 21, 3) := by decide +kernel
theorem dX1_kettleForFirst_27 : decode cX1_kettleForFirst 27 = .ok (.getfield 184, 3) := by decide +kernel
theorem dX1_kettleForFirst_30 : decode cX1_kettleForFirst 30 = .ok (.iconst 0, 1) := by decide +kernel
theorem dX1_kettleForFirst_31 : decode cX1_kettleForFirst 31 = .ok (.iaload, 1) := by decide +kernel
theorem dX1_kettleForFirst_32 : decode cX1_kettleForFirst 32 = .ok (.invokevirtual 187, 3) := by decide +kernel
theorem dX1_kettleForFirst_35 : decode cX1_kettleForFirst 35 = .ok (.goto 4, 3) := by decide +kernel
theorem dX1_kettleForFirst_38 : decode cX1_kettleForFirst 38 = .ok (.iconst (-1), 1) := by decide +kernel
theorem dX1_kettleForFirst_39 : decode cX1_kettleForFirst 39 = .ok (.ireturn, 1) := by decide +kernel
theorem dX1_firstCanBeServed_0 : decode cX1_firstCanBeServed 0 = .ok (.aload_n 0, 1) := by decide +kernel
theorem dX1_firstCanBeServed_1 : decode cX1_firstCanBeServed 1 = .ok (.invokevirtual 190, 3) := by decide +kernel
theorem dX1_firstCanBeServed_4 : decode cX1_firstCanBeServed 4 = .ok (.iconst (-1), 1) := by decide +kernel
theorem dX1_firstCanBeServed_5 : decode cX1_firstCanBeServed 5 = .ok (.if_icmp .eq 23, 3) := by decide +kernel
theorem dX1_firstCanBeServed_8 : decode cX1_firstCanBeServed 8 = .ok (.aload_n 0, 1) := by decide +kernel
theorem dX1_firstCanBeServed_9 : decode cX1_firstCanBeServed 9 = .ok (.getfield 21, 3) := by decide +kernel
theorem dX1_firstCanBeServed_12 : decode cX1_firstCanBeServed 12 = .ok (.getfield 181, 3) := by decide +kernel
theorem dX1_firstCanBeServed_15 : decode cX1_firstCanBeServed 15 = .ok (.iconst 0, 1) := by decide +kernel
theorem dX1_firstCanBeServed_16 : decode cX1_firstCanBeServed 16 = .ok (.iaload, 1) := by decide +kernel
theorem dX1_firstCanBeServed_17 : decode cX1_firstCanBeServed 17 = .ok (.aload_n 0, 1) := by decide +kernel
theorem dX1_firstCanBeServed_18 : decode cX1_firstCanBeServed 18 = .ok (.getfield 32, 3) := by decide +kernel
theorem dX1_firstCanBeServed_21 : decode cX1_firstCanBeServed 21 = .ok (.if_icmp .gt 7, 3) := by decide +kernel
theorem dX1_firstCanBeServed_24 : decode cX1_firstCanBeServed 24 = .ok (.iconst 1, 1) := by decide +kernel
theorem dX1_firstCanBeServed_25 : decode cX1_firstCanBeServed 25 = .ok (.goto 4, 3) := by decide +kernel
theorem dX1_firstCanBeServed_28 : decode cX1_firstCanBeServed 28 = .ok (.iconst 0, 1) := by decide +kernel
theorem dX1_firstCanBeServed_29 : decode cX1_firstCanBeServed 29 = .ok (.ireturn, 1) := by decide +kernel
theorem dX1_serveFirst_0 : decode cX1_serveFirst 0 = .ok (.aload_n 0, 1) := by decide +kernel
theorem dX1_serveFirst_1 : decode cX1_serveFirst 1 = .ok (.invokevirtual 190, 3) := by decide +kernel
theorem dX1_serveFirst_4 : decode cX1_serveFirst 4 = .ok (.istore_n 1, 1) := by decide +kernel
theorem dX1_serveFirst_5 : decode cX1_serveFirst 5 = .ok (.iload_n 1, 1) := by decide +kernel
theorem dX1_serveFirst_6 : decode cX1_serveFirst 6 = .ok (.iconst (-1), 1) := by decide +kernel
theorem dX1_serveFirst_7 : decode cX1_serveFirst 7 = .ok (.if_icmp .ne 5, 3) := by decide +kernel
theorem dX1_serveFirst_10 : decode cX1_serveFirst 10 = .ok (.iconst (-1), 1) := by decide +kernel
theorem dX1_serveFirst_11 : decode cX1_serveFirst 11 = .ok (.ireturn, 1) := by decide +kernel
theorem dX1_serveFirst_12 : decode cX1_serveFirst 12 = .ok (.aload_n 0, 1) := by decide +kernel
theorem dX1_serveFirst_13 : decode cX1_serveFirst 13 = .ok (.getfield 21, 3) := by decide +kernel
theorem dX1_serveFirst_16 : decode cX1_serveFirst 16 = .ok (.getfield 181, 3) := by decide +kernel
theorem dX1_serveFirst_19 : decode cX1_serveFirst 19 = .ok (.iconst 0, 1) := by decide +kernel
theorem dX1_serveFirst_20 : decode cX1_serveFirst 20 = .ok (.iaload, 1) := by decide +kernel
theorem dX1_serveFirst_21 : decode cX1_serveFirst 21 = .ok (.istore_n 2, 1) := by decide +kernel
theorem dX1_serveFirst_22 : decode cX1_serveFirst 22 = .ok (.aload_n 0, 1) := by decide +kernel
theorem dX1_serveFirst_23 : decode cX1_serveFirst 23 = .ok (.getfield 21, 3) := by decide +kernel
theorem dX1_serveFirst_26 : decode cX1_serveFirst 26 = .ok (.getfield 193, 3) := by decide +kernel
theorem dX1_serveFirst_29 : decode cX1_serveFirst 29 = .ok (.iconst 0, 1) := by decide +kernel
theorem dX1_serveFirst_30 : decode cX1_serveFirst 30 = .ok (.iaload, 1) := by decide +kernel
theorem dX1_serveFirst_31 : decode cX1_serveFirst 31 = .ok (.istore_n 3, 1) := by decide +kernel
theorem dX1_serveFirst_32 : decode cX1_serveFirst 32 = .ok (.aload_n 0, 1) := by decide +kernel
theorem dX1_serveFirst_33 : decode cX1_serveFirst 33 = .ok (.getfield 12, 3) := by decide +kernel
theorem dX1_serveFirst_36 : decode cX1_serveFirst 36 = .ok (.getfield 175, 3) := by decide +kernel
theorem dX1_serveFirst_39 : decode cX1_serveFirst 39 = .ok (.iload_n 1, 1) := by decide +kernel
theorem dX1_serveFirst_40 : decode cX1_serveFirst 40 = .ok (.dup2, 1) := by decide +kernel
theorem dX1_serveFirst_41 : decode cX1_serveFirst 41 = .ok (.iaload, 1) := by decide +kernel
theorem dX1_serveFirst_42 : decode cX1_serveFirst 42 = .ok (.iload_n 2, 1) := by decide +kernel
theorem dX1_serveFirst_43 : decode cX1_serveFirst 43 = .ok (.iconst 2, 1) := by decide +kernel
theorem dX1_serveFirst_44 : decode cX1_serveFirst 44 = .ok (.imul, 1) := by decide +kernel
theorem dX1_serveFirst_45 : decode cX1_serveFirst 45 = .ok (.isub, 1) := by decide +kernel
theorem dX1_serveFirst_46 : decode cX1_serveFirst 46 = .ok (.iastore, 1) := by decide +kernel
theorem dX1_serveFirst_47 : decode cX1_serveFirst 47 = .ok (.aload_n 0, 1) := by decide +kernel
theorem dX1_serveFirst_48 : decode cX1_serveFirst 48 = .ok (.dup, 1) := by decide +kernel
theorem dX1_serveFirst_49 : decode cX1_serveFirst 49 = .ok (.getfield 42, 3) := by decide +kernel
theorem dX1_serveFirst_52 : decode cX1_serveFirst 52 = .ok (.iload_n 2, 1) := by decide +kernel
theorem dX1_serveFirst_53 : decode cX1_serveFirst 53 = .ok (.iconst 2, 1) := by decide +kernel
theorem dX1_serveFirst_54 : decode cX1_serveFirst 54 = .ok (.imul, 1) := by decide +kernel
theorem dX1_serveFirst_55 : decode cX1_serveFirst 55 = .ok (.iadd, 1) := by decide +kernel
theorem dX1_serveFirst_56 : decode cX1_serveFirst 56 = .ok (.putfield 42, 3) := by decide +kernel
theorem dX1_serveFirst_59 : decode cX1_serveFirst 59 = .ok (.aload_n 0, 1) := by decide +kernel
theorem dX1_serveFirst_60 : decode cX1_serveFirst 60 = .ok (.dup, 1) := by decide +kernel
theorem dX1_serveFirst_61 : decode cX1_serveFirst 61 = .ok (.getfield 32, 3) := by decide +kernel
theorem dX1_serveFirst_64 : decode cX1_serveFirst 64 = .ok (.iload_n 2, 1) := by decide +kernel
theorem dX1_serveFirst_65 : decode cX1_serveFirst 65 = .ok (.isub, 1) := by decide +kernel
theorem dX1_serveFirst_66 : decode cX1_serveFirst 66 = .ok (.putfield 32, 3) := by decide +kernel
theorem dX1_serveFirst_69 : decode cX1_serveFirst 69 = .ok (.aload_n 0, 1) := by decide +kernel
theorem dX1_serveFirst_70 : decode cX1_serveFirst 70 = .ok (.dup, 1) := by decide +kernel
theorem dX1_serveFirst_71 : decode cX1_serveFirst 71 = .ok (.getfield 58, 3) := by decide +kernel
theorem dX1_serveFirst_74 : decode cX1_serveFirst 74 = .ok (.iconst 1, 1) := by decide +kernel
theorem dX1_serveFirst_75 : decode cX1_serveFirst 75 = .ok (.iadd, 1) := by decide +kernel
theorem dX1_serveFirst_76 : decode cX1_serveFirst 76 = .ok (.putfield 58, 3) := by decide +kernel
theorem dX1_serveFirst_79 : decode cX1_serveFirst 79 = .ok (.aload_n 0, 1) := by decide +kernel
theorem dX1_serveFirst_80 : decode cX1_serveFirst 80 = .ok (.getfield 28, 3) := by decide +kernel
theorem dX1_serveFirst_83 : decode cX1_serveFirst 83 = .ok (.iload_n 2, 1) := by decide +kernel
theorem dX1_serveFirst_84 : decode cX1_serveFirst 84 = .ok (.aload_n 0, 1) := by decide +kernel
theorem dX1_serveFirst_85 : decode cX1_serveFirst 85 = .ok (.getfield 48, 3) := by decide +kernel
theorem dX1_serveFirst_88 : decode cX1_serveFirst 88 = .ok (.imul, 1) := by decide +kernel
theorem dX1_serveFirst_89 : decode cX1_serveFirst 89 = .ok (.invokevirtual 196, 3) := by decide +kernel
theorem dX1_serveFirst_92 : decode cX1_serveFirst 92 = .ok (.aload_n 0, 1) := by decide +kernel
theorem dX1_serveFirst_93 : decode cX1_serveFirst 93 = .ok (.getfield 21, 3) := by decide +kernel
theorem dX1_serveFirst_96 : decode cX1_serveFirst 96 = .ok (.iconst 0, 1) := by decide +kernel
theorem dX1_serveFirst_97 : decode cX1_serveFirst 97 = .ok (.invokevirtual 143, 3) := by decide +kernel
theorem dX1_serveFirst_100 : decode cX1_serveFirst 100 = .ok (.iload_n 3, 1) := by decide +kernel
theorem dX1_serveFirst_101 : decode cX1_serveFirst 101 = .ok (.ireturn, 1) := by decide +kernel
theorem dX1_sell_0 : decode cX1_sell 0 = .ok (.iload_n 1, 1) := by decide +kernel
theorem dX1_sell_1 : decode cX1_sell 1 = .ok (.aload_n 0, 1) := by decide +kernel
theorem dX1_sell_2 : decode cX1_sell 2 = .ok (.getfield 51, 3) := by decide +kernel
theorem dX1_sell_5 : decode cX1_sell 5 = .ok (.imul, 1) := by decide +kernel
theorem dX1_sell_6 : decode cX1_sell 6 = .ok (.istore_n 2, 1) := by decide +kernel
theorem dX1_sell_7 : decode cX1_sell 7 = .ok (.aload_n 0, 1) := by decide +kernel
theorem dX1_sell_8 : decode cX1_sell 8 = .ok (.dup, 1) := by decide +kernel
theorem dX1_sell_9 : decode cX1_sell 9 = .ok (.getfield 36, 3) := by decide +kernel
theorem dX1_sell_12 : decode cX1_sell 12 = .ok (.iload_n 1, 1) := by decide +kernel
theorem dX1_sell_13 : decode cX1_sell 13 = .ok (.isub, 1) := by decide +kernel
theorem dX1_sell_14 : decode cX1_sell 14 = .ok (.putfield 36, 3) := by decide +kernel
theorem dX1_sell_17 : decode cX1_sell 17 = .ok (.aload_n 0, 1) := by decide +kernel
theorem dX1_sell_18 : decode cX1_sell 18 = .ok (.getfield 28, 3) := by decide +kernel
theorem dX1_sell_21 : decode cX1_sell 21 = .ok (.iload_n 2, 1) := by decide +kernel
theorem dX1_sell_22 : decode cX1_sell 22 = .ok (.invokevirtual 199, 3) := by decide +kernel
theorem dX1_sell_25 : decode cX1_sell 25 = .ok (.iload_n 2, 1) := by decide +kernel
theorem dX1_sell_26 : decode cX1_sell 26 = .ok (.ireturn, 1) := by decide +kernel
theorem dX1_passMinutes_0 : decode cX1_passMinutes 0 = .ok (.iconst 0, 1) := by decide +kernel
theorem dX1_passMinutes_1 : decode cX1_passMinutes 1 = .ok (.istore_n 2, 1) := by decide +kernel
theorem dX1_passMinutes_2 : decode cX1_passMinutes 2 = .ok (.iconst 0, 1) := by decide +kernel
theorem dX1_passMinutes_3 : decode cX1_passMinutes 3 = .ok (.istore_n 3, 1) := by decide +kernel
theorem dX1_passMinutes_4 : decode cX1_passMinutes 4 = .ok (.iload_n 3, 1) := by decide +kernel
theorem dX1_passMinutes_5 : decode cX1_passMinutes 5 = .ok (.iload_n 1, 1) := by decide +kernel
theorem dX1_passMinutes_6 : decode cX1_passMinutes 6 = .ok (.if_icmp .ge 96, 3) := by decide +kernel
theorem dX1_passMinutes_9 : decode cX1_passMinutes 9 = .ok (.iconst 0, 1) := by decide +kernel
theorem dX1_passMinutes_10 : decode cX1_passMinutes 10 = .ok (.istore 4, 2) := by decide +kernel
theorem dX1_passMinutes_12 : decode cX1_passMinutes 12 = .ok (.iload 4, 2) := by decide +kernel
theorem dX1_passMinutes_14 : decode cX1_passMinutes 14 = .ok (.aload_n 0, 1) := by decide +kernel
theorem dX1_passMinutes_15 : decode cX1_passMinutes 15 = .ok (.getfield 12, 3) := by decide +kernel
theorem dX1_passMinutes_18 : decode cX1_passMinutes 18 = .ok (.getfield 93, 3) := by decide +kernel
theorem dX1_passMinutes_21 : decode cX1_passMinutes 21 = .ok (.if_icmp .ge 75, 3) := by decide +kernel
theorem dX1_passMinutes_24 : decode cX1_passMinutes 24 = .ok (.aload_n 0, 1) := by decide +kernel
theorem dX1_passMinutes_25 : decode cX1_passMinutes 25 = .ok (.getfield 12, 3) := by decide +kernel
theorem dX1_passMinutes_28 : decode cX1_passMinutes 28 = .ok (.getfield 202, 3) := by decide +kernel
theorem dX1_passMinutes_31 : decode cX1_passMinutes 31 = .ok (.iload 4, 2) := by decide +kernel
theorem dX1_passMinutes_33 : decode cX1_passMinutes 33 = .ok (.baload, 1) := by decide +kernel
theorem dX1_passMinutes_34 : decode cX1_passMinutes 34 = .ok (.istore 5, 2) := by decide +kernel
theorem dX1_passMinutes_36 : decode cX1_passMinutes 36 = .ok (.aload_n 0, 1) := by decide +kernel
theorem dX1_passMinutes_37 : decode cX1_passMinutes 37 = .ok (.getfield 12, 3) := by decide +kernel
theorem dX1_passMinutes_40 : decode cX1_passMinutes 40 = .ok (.iload 4, 2) := by decide +kernel
theorem dX1_passMinutes_42 : decode cX1_passMinutes 42 = .ok (.invokevirtual 205, 3) := by decide +kernel
theorem dX1_passMinutes_45 : decode cX1_passMinutes 45 = .ok (.istore 6, 2) := by decide +kernel
theorem dX1_passMinutes_47 : decode cX1_passMinutes 47 = .ok (.aload_n 0, 1) := by decide +kernel
theorem dX1_passMinutes_48 : decode cX1_passMinutes 48 = .ok (.dup, 1) := by decide +kernel
theorem dX1_passMinutes_49 : decode cX1_passMinutes 49 = .ok (.getfield 36, 3) := by decide +kernel
theorem dX1_passMinutes_52 : decode cX1_passMinutes 52 = .ok (.iload 6, 2) := by decide +kernel
theorem dX1_passMinutes_54 : decode cX1_passMinutes 54 = .ok (.iadd, 1) := by decide +kernel
theorem dX1_passMinutes_55 : decode cX1_passMinutes 55 = .ok (.putfield 36, 3) := by decide +kernel
theorem dX1_passMinutes_58 : decode cX1_passMinutes 58 = .ok (.aload_n 0, 1) := by decide +kernel
theorem dX1_passMinutes_59 : decode cX1_passMinutes 59 = .ok (.dup, 1) := by decide +kernel
theorem dX1_passMinutes_60 : decode cX1_passMinutes 60 = .ok (.getfield 39, 3) := by decide +kernel
theorem dX1_passMinutes_63 : decode cX1_passMinutes 63 = .ok (.iload 6, 2) := by decide +kernel
theorem dX1_passMinutes_65 : decode cX1_passMinutes 65 = .ok (.iadd, 1) := by decide +kernel
theorem dX1_passMinutes_66 : decode cX1_passMinutes 66 = .ok (.putfield 39, 3) := by decide +kernel
theorem dX1_passMinutes_69 : decode cX1_passMinutes 69 = .ok (.aload_n 0, 1) := by decide +kernel
theorem dX1_passMinutes_70 : decode cX1_passMinutes 70 = .ok (.getfield 12, 3) := by decide +kernel
theorem dX1_passMinutes_73 : decode cX1_passMinutes 73 = .ok (.getfield 202, 3) := by decide +kernel
theorem dX1_passMinutes_76 : decode cX1_passMinutes 76 = .ok (.iload 4, 2) := by decide +kernel
theorem dX1_passMinutes_78 : decode cX1_passMinutes 78 = .ok (.baload, 1) := by decide +kernel
theorem dX1_passMinutes_79 : decode cX1_passMinutes 79 = .ok (.ifCond .eq 11, 3) := by decide +kernel
theorem dX1_passMinutes_82 : decode cX1_passMinutes 82 = .ok (.iload 5, 2) := by decide +kernel
theorem dX1_passMinutes_84 : decode cX1_passMinutes 84 = .ok (.ifCond .ne 6, 3) := by decide +kernel
theorem dX1_passMinutes_87 : decode cX1_passMinutes 87 = .ok (.iinc 2 1, 3) := by decide +kernel
theorem dX1_passMinutes_90 : decode cX1_passMinutes 90 = .ok (.iinc 4 1, 3) := by decide +kernel
theorem dX1_passMinutes_93 : decode cX1_passMinutes 93 = .ok (.goto (-81), 3) := by decide +kernel
theorem dX1_passMinutes_96 : decode cX1_passMinutes 96 = .ok (.iinc 3 1, 3) := by decide +kernel
theorem dX1_passMinutes_99 : decode cX1_passMinutes 99 = .ok (.goto (-95), 3) := by decide +kernel
theorem dX1_passMinutes_102 : decode cX1_passMinutes 102 = .ok (.aload_n 0, 1) := by decide +kernel
theorem dX1_passMinutes_103 : decode cX1_passMinutes 103 = .ok (.getfield 54, 3) := by decide +kernel
theorem dX1_passMinutes_106 : decode cX1_passMinutes 106 = .ok (.ifCond .eq 16, 3) := by decide +kernel
theorem dX1_passMinutes_109 : decode cX1_passMinutes 109 = .ok (.aload_n 0, 1) := by decide +kernel
theorem dX1_passMinutes_110 : decode cX1_passMinutes 110 = .ok (.dup, 1) := by decide +kernel
theorem dX1_passMinutes_111 : decode cX1_passMinutes 111 = .ok (.getfield 61, 3) := by decide +kernel
theorem dX1_passMinutes_114 : decode cX1_passMinutes 114 = .ok (.iload_n 2, 1) := by decide +kernel
theorem dX1_passMinutes_115 : decode cX1_passMinutes 115 = .ok (.iadd, 1) := by decide +kernel
theorem dX1_passMinutes_116 : decode cX1_passMinutes 116 = .ok (.putfield 61, 3) := by decide +kernel
theorem dX1_passMinutes_119 : decode cX1_passMinutes 119 = .ok (.goto 13, 3) := by decide +kernel
theorem dX1_passMinutes_122 : decode cX1_passMinutes 122 = .ok (.aload_n 0, 1) := by decide +kernel
theorem dX1_passMinutes_123 : decode cX1_passMinutes 123 = .ok (.dup, 1) := by decide +kernel
theorem dX1_passMinutes_124 : decode cX1_passMinutes 124 = .ok (.getfield 64, 3) := by decide +kernel
theorem dX1_passMinutes_127 : decode cX1_passMinutes 127 = .ok (.iload_n 2, 1) := by decide +kernel
theorem dX1_passMinutes_128 : decode cX1_passMinutes 128 = .ok (.iadd, 1) := by decide +kernel
theorem dX1_passMinutes_129 : decode cX1_passMinutes 129 = .ok (.putfield 64, 3) := by decide +kernel
theorem dX1_passMinutes_132 : decode cX1_passMinutes 132 = .ok (.iload_n 2, 1) := by decide +kernel
theorem dX1_passMinutes_133 : decode cX1_passMinutes 133 = .ok (.ireturn, 1) := by decide +kernel
theorem dX1_exchangeCupPrice_0 : decode cX1_exchangeCupPrice 0 = .ok (.aload_n 0, 1) := by decide +kernel
theorem dX1_exchangeCupPrice_1 : decode cX1_exchangeCupPrice 1 = .ok (.getfield 48, 3) := by decide +kernel
theorem dX1_exchangeCupPrice_4 : decode cX1_exchangeCupPrice 4 = .ok (.istore_n 2, 1) := by decide +kernel
theorem dX1_exchangeCupPrice_5 : decode cX1_exchangeCupPrice 5 = .ok (.aload_n 0, 1) := by decide +kernel
theorem dX1_exchangeCupPrice_6 : decode cX1_exchangeCupPrice 6 = .ok (.iload_n 1, 1) := by decide +kernel
theorem dX1_exchangeCupPrice_7 : decode cX1_exchangeCupPrice 7 = .ok (.putfield 48, 3) := by decide +kernel
theorem dX1_exchangeCupPrice_10 : decode cX1_exchangeCupPrice 10 = .ok (.iload_n 2, 1) := by decide +kernel
theorem dX1_exchangeCupPrice_11 : decode cX1_exchangeCupPrice 11 = .ok (.ireturn, 1) := by decide +kernel
theorem dX1_exchangeSteamPrice_0 : decode cX1_exchangeSteamPrice 0 = .ok (.aload_n 0, 1) := by decide +kernel
theorem dX1_exchangeSteamPrice_1 : decode cX1_exchangeSteamPrice 1 = .ok (.getfield 51, 3) := by decide +kernel
theorem dX1_exchangeSteamPrice_4 : decode cX1_exchangeSteamPrice 4 = .ok (.istore_n 2, 1) := by decide +kernel
theorem dX1_exchangeSteamPrice_5 : decode cX1_exchangeSteamPrice 5 = .ok (.aload_n 0, 1) := by decide +kernel
theorem dX1_exchangeSteamPrice_6 : decode cX1_exchangeSteamPrice 6 = .ok (.iload_n 1, 1) := by decide +kernel
theorem dX1_exchangeSteamPrice_7 : decode cX1_exchangeSteamPrice 7 = .ok (.putfield 51, 3) := by decide +kernel
theorem dX1_exchangeSteamPrice_10 : decode cX1_exchangeSteamPrice 10 = .ok (.iload_n 2, 1) := by decide +kernel
theorem dX1_exchangeSteamPrice_11 : decode cX1_exchangeSteamPrice 11 = .ok (.ireturn, 1) := by decide +kernel
theorem dX1_exchangeAttendant_0 : decode cX1_exchangeAttendant 0 = .ok (.aload_n 0, 1) := by decide +kernel
theorem dX1_exchangeAttendant_1 : decode cX1_exchangeAttendant 1 = .ok (.getfield 54, 3) := by decide +kernel
theorem dX1_exchangeAttendant_4 : decode cX1_exchangeAttendant 4 = .ok (.ifCond .eq 7, 3) := by decide +kernel
theorem dX1_exchangeAttendant_7 : decode cX1_exchangeAttendant 7 = .ok (.iconst 1, 1) := by decide +kernel
theorem dX1_exchangeAttendant_8 : decode cX1_exchangeAttendant 8 = .ok (.goto 4, 3) := by decide +kernel
theorem dX1_exchangeAttendant_11 : decode cX1_exchangeAttendant 11 = .ok (.iconst 0, 1) := by decide +kernel
theorem dX1_exchangeAttendant_12 : decode cX1_exchangeAttendant 12 = .ok (.istore_n 2, 1) := by decide +kernel
theorem dX1_exchangeAttendant_13 : decode cX1_exchangeAttendant 13 = .ok (.aload_n 0, 1) := by decide +kernel
theorem dX1_exchangeAttendant_14 : decode cX1_exchangeAttendant 14 = .ok (.iload_n 1, 1) := by decide +kernel
theorem dX1_exchangeAttendant_15 : decode cX1_exchangeAttendant 15 = .ok (.putfield 54, 3) := by decide +kernel
theorem dX1_exchangeAttendant_18 : decode cX1_exchangeAttendant 18 = .ok (.iload_n 2, 1) := by decide +kernel
theorem dX1_exchangeAttendant_19 : decode cX1_exchangeAttendant 19 = .ok (.ireturn, 1) := by decide +kernel
theorem dX2_init_0 : decode cX2_init 0 = .ok (.aload_n 0, 1) := by decide +kernel
theorem dX2_init_1 : decode cX2_init 1 = .ok (.invokespecial 3, 3) := by decide +kernel
theorem dX2_init_4 : decode cX2_init 4 = .ok (.aload_n 0, 1) := by decide +kernel
theorem dX2_init_5 : decode cX2_init 5 = .ok (.bipush 60, 2) := by decide +kernel
theorem dX2_init_7 : decode cX2_init 7 = .ok (.newarray .char, 2) := by decide +kernel
theorem dX2_init_9 : decode cX2_init 9 = .ok (.putfield 9, 3) := by decide +kernel
theorem dX2_init_12 : decode cX2_init 12 = .ok (.aload_n 0, 1) := by decide +kernel
theorem dX2_init_13 : decode cX2_init 13 = .ok (.bipush 12, 2) := by decide +kernel
theorem dX2_init_15 : decode cX2_init 15 = .ok (.newarray .int, 2) := by decide +kernel
theorem dX2_init_17 : decode cX2_init 17 = .ok (.putfield 15, 3) := by decide +kernel
theorem dX2_init_20 : decode cX2_init 20 = .ok (.aload_n 0, 1) := by decide +kernel
theorem dX2_init_21 : decode cX2_init 21 = .ok (.bipush 48, 2) := by decide +kernel
theorem dX2_init_23 : decode cX2_init 23 = .ok (.newarray .int, 2) := by decide +kernel
theorem dX2_init_25 : decode cX2_init 25 = .ok (.putfield 19, 3) := by decide +kernel
theorem dX2_init_28 : decode cX2_init 28 = .ok (.aload_n 0, 1) := by decide +kernel
theorem dX2_init_29 : decode cX2_init 29 = .ok (.iconst 0, 1) := by decide +kernel
theorem dX2_init_30 : decode cX2_init 30 = .ok (.putfield 22, 3) := by decide +kernel
theorem dX2_init_33 : decode cX2_init 33 = .ok (.aload_n 0, 1) := by decide +kernel
theorem dX2_init_34 : decode cX2_init 34 = .ok (.iconst 0, 1) := by decide +kernel
theorem dX2_init_35 : decode cX2_init 35 = .ok (.putfield 26, 3) := by decide +kernel
theorem dX2_init_38 : decode cX2_init 38 = .ok (.aload_n 0, 1) := by decide +kernel
theorem dX2_init_39 : decode cX2_init 39 = .ok (.iconst 0, 1) := by decide +kernel
theorem dX2_init_40 : decode cX2_init 40 = .ok (.putfield 29, 3) := by decide +kernel
theorem dX2_init_43 : decode cX2_init 43 = .ok (.return_, 1) := by decide +kernel
theorem dX3_init_0 : decode cX3_init 0 = .ok (.aload_n 0, 1) := by decide +kernel
theorem dX3_init_1 : decode cX3_init 1 = .ok (.invokespecial 3, 3) := by decide +kernel
theorem dX3_init_4 : decode cX3_init 4 = .ok (.aload_n 0, 1) := by decide +kernel
theorem dX3_init_5 : decode cX3_init 5 = .ok (.iconst 4, 1) := by decide +kernel
theorem dX3_init_6 : decode cX3_init 6 = .ok (.newarray .int, 2) := by decide +kernel
theorem dX3_init_8 : decode cX3_init 8 = .ok (.putfield 9, 3) := by decide +kernel
theorem dX3_init_11 : decode cX3_init 11 = .ok (.aload_n 0, 1) := by decide +kernel
theorem dX3_init_12 : decode cX3_init 12 = .ok (.iconst 4, 1) := by decide +kernel
theorem dX3_init_13 : decode cX3_init 13 = .ok (.newarray .int, 2) := by decide +kernel
theorem dX3_init_15 : decode cX3_init 15 = .ok (.putfield 15, 3) := by decide +kernel
theorem dX3_init_18 : decode cX3_init 18 = .ok (.aload_n 0, 1) := by decide +kernel
theorem dX3_init_19 : decode cX3_init 19 = .ok (.iconst 4, 1) := by decide +kernel
theorem dX3_init_20 : decode cX3_init 20 = .ok (.newarray .int, 2) := by decide +kernel
theorem dX3_init_22 : decode cX3_init 22 = .ok (.putfield 18, 3) := by decide +kernel
theorem dX3_init_25 : decode cX3_init 25 = .ok (.aload_n 0, 1) := by decide +kernel
theorem dX3_init_26 : decode cX3_init 26 = .ok (.iconst 4, 1) := by decide +kernel
theorem dX3_init_27 : decode cX3_init 27 = .ok (.newarray .int, 2) := by decide +kernel
theorem dX3_init_29 : decode cX3_init 29 = .ok (.putfield 21, 3) := by decide +kernel
theorem dX3_init_32 : decode cX3_init 32 = .ok (.aload_n 0, 1) := by decide +kernel
theorem dX3_init_33 : decode cX3_init 33 = .ok (.iconst 4, 1) := by decide +kernel
theorem dX3_init_34 : decode cX3_init 34 = .ok (.newarray .boolean, 2) := by decide +kernel
theorem dX3_init_36 : decode cX3_init 36 = .ok (.putfield 24, 3) := by decide +kernel
theorem dX3_init_39 : decode cX3_init 39 = .ok (.aload_n 0, 1) := by decide +kernel
theorem dX3_init_40 : decode cX3_init 40 = .ok (.iconst 0, 1) := by decide +kernel
theorem dX3_init_41 : decode cX3_init 41 = .ok (.putfield 28, 3) := by decide +kernel
theorem dX3_init_44 : decode cX3_init 44 = .ok (.return_, 1) := by decide +kernel
theorem dX3_copyFrom_0 : decode cX3_copyFrom 0 = .ok (.aload_n 0, 1) := by decide +kernel
theorem dX3_copyFrom_1 : decode cX3_copyFrom 1 = .ok (.aload_n 1, 1) := by decide +kernel
theorem dX3_copyFrom_2 : decode cX3_copyFrom 2 = .ok (.getfield 28, 3) := by decide +kernel
theorem dX3_copyFrom_5 : decode cX3_copyFrom 5 = .ok (.putfield 28, 3) := by decide +kernel
theorem dX3_copyFrom_8 : decode cX3_copyFrom 8 = .ok (.iconst 0, 1) := by decide +kernel
theorem dX3_copyFrom_9 : decode cX3_copyFrom 9 = .ok (.istore_n 2, 1) := by decide +kernel
theorem dX3_copyFrom_10 : decode cX3_copyFrom 10 = .ok (.iload_n 2, 1) := by decide +kernel
theorem dX3_copyFrom_11 : decode cX3_copyFrom 11 = .ok (.iconst 4, 1) := by decide +kernel
theorem dX3_copyFrom_12 : decode cX3_copyFrom 12 = .ok (.if_icmp .ge 69, 3) := by decide +kernel
theorem dX3_copyFrom_15 : decode cX3_copyFrom 15 = .ok (.aload_n 0, 1) := by decide +kernel
theorem dX3_copyFrom_16 : decode cX3_copyFrom 16 = .ok (.getfield 9, 3) := by decide +kernel
theorem dX3_copyFrom_19 : decode cX3_copyFrom 19 = .ok (.iload_n 2, 1) := by decide +kernel
theorem dX3_copyFrom_20 : decode cX3_copyFrom 20 = .ok (.aload_n 1, 1) := by decide +kernel
theorem dX3_copyFrom_21 : decode cX3_copyFrom 21 = .ok (.getfield 9, 3) := by decide +kernel
theorem dX3_copyFrom_24 : decode cX3_copyFrom 24 = .ok (.iload_n 2, 1) := by decide +kernel
theorem dX3_copyFrom_25 : decode cX3_copyFrom 25 = .ok (.iaload, 1) := by decide +kernel
theorem dX3_copyFrom_26 : decode cX3_copyFrom 26 = .ok (.iastore, 1) := by decide +kernel
theorem dX3_copyFrom_27 : decode cX3_copyFrom 27 = .ok (.aload_n 0, 1) := by decide +kernel
theorem dX3_copyFrom_28 : decode cX3_copyFrom 28 = .ok (.getfield 15, 3) := by decide +kernel
theorem dX3_copyFrom_31 : decode cX3_copyFrom 31 = .ok (.iload_n 2, 1) := by decide +kernel
theorem dX3_copyFrom_32 : decode cX3_copyFrom 32 = .ok (.aload_n 1, 1) := by decide +kernel
theorem dX3_copyFrom_33 : decode cX3_copyFrom 33 = .ok (.getfield 15, 3) := by decide +kernel
theorem dX3_copyFrom_36 : decode cX3_copyFrom 36 = .ok (.iload_n 2, 1) := by decide +kernel
theorem dX3_copyFrom_37 : decode cX3_copyFrom 37 = .ok (.iaload, 1) := by decide +kernel
theorem dX3_copyFrom_38 : decode cX3_copyFrom 38 = .ok (.iastore, 1) := by decide +kernel
theorem dX3_copyFrom_39 : decode cX3_copyFrom 39 = .ok (.aload_n 0, 1) := by decide +kernel
theorem dX3_copyFrom_40 : decode cX3_copyFrom 40 = .ok (.getfield 18, 3) := by decide +kernel
theorem dX3_copyFrom_43 : decode cX3_copyFrom 43 = .ok (.iload_n 2, 1) := by decide +kernel
theorem dX3_copyFrom_44 : decode cX3_copyFrom 44 = .ok (.aload_n 1, 1) := by decide +kernel
theorem dX3_copyFrom_45 : decode cX3_copyFrom 45 = .ok (.getfield 18, 3) := by decide +kernel
theorem dX3_copyFrom_48 : decode cX3_copyFrom 48 = .ok (.iload_n 2, 1) := by decide +kernel
theorem dX3_copyFrom_49 : decode cX3_copyFrom 49 = .ok (.iaload, 1) := by decide +kernel
theorem dX3_copyFrom_50 : decode cX3_copyFrom 50 = .ok (.iastore, 1) := by decide +kernel
theorem dX3_copyFrom_51 : decode cX3_copyFrom 51 = .ok (.aload_n 0, 1) := by decide +kernel
theorem dX3_copyFrom_52 : decode cX3_copyFrom 52 = .ok (.getfield 21, 3) := by decide +kernel
theorem dX3_copyFrom_55 : decode cX3_copyFrom 55 = .ok (.iload_n 2, 1) := by decide +kernel
theorem dX3_copyFrom_56 : decode cX3_copyFrom 56 = .ok (.aload_n 1, 1) := by decide +kernel
theorem dX3_copyFrom_57 : decode cX3_copyFrom 57 = .ok (.getfield 21, 3) := by decide +kernel
theorem dX3_copyFrom_60 : decode cX3_copyFrom 60 = .ok (.iload_n 2, 1) := by decide +kernel
theorem dX3_copyFrom_61 : decode cX3_copyFrom 61 = .ok (.iaload, 1) := by decide +kernel
theorem dX3_copyFrom_62 : decode cX3_copyFrom 62 = .ok (.iastore, 1) := by decide +kernel
theorem dX3_copyFrom_63 : decode cX3_copyFrom 63 = .ok (.aload_n 0, 1) := by decide +kernel
theorem dX3_copyFrom_64 : decode cX3_copyFrom 64 = .ok (.getfield 24, 3) := by decide +kernel
theorem dX3_copyFrom_67 : decode cX3_copyFrom 67 = .ok (.iload_n 2, 1) := by decide +kernel
theorem dX3_copyFrom_68 : decode cX3_copyFrom 68 = .ok (.aload_n 1, 1) := by decide +kernel
theorem dX3_copyFrom_69 : decode cX3_copyFrom 69 = .ok (.getfield 24, 3) := by decide +kernel
theorem dX3_copyFrom_72 : decode cX3_copyFrom 72 = .ok (.iload_n 2, 1) := by decide +kernel
theorem dX3_copyFrom_73 : decode cX3_copyFrom 73 = .ok (.baload, 1) := by decide +kernel
theorem dX3_copyFrom_74 : decode cX3_copyFrom 74 = .ok (.bastore, 1) := by decide +kernel
theorem dX3_copyFrom_75 : decode cX3_copyFrom 75 = .ok (.iinc 2 1, 3) := by decide +kernel
theorem dX3_copyFrom_78 : decode cX3_copyFrom 78 = .ok (.goto (-68), 3) := by decide +kernel
theorem dX3_copyFrom_81 : decode cX3_copyFrom 81 = .ok (.return_, 1) := by decide +kernel
theorem dX3_has_0 : decode cX3_has 0 = .ok (.iload_n 1, 1) := by decide +kernel
theorem dX3_has_1 : decode cX3_has 1 = .ok (.ifCond .lt 15, 3) := by decide +kernel
theorem dX3_has_4 : decode cX3_has 4 = .ok (.iload_n 1, 1) := by decide +kernel
theorem dX3_has_5 : decode cX3_has 5 = .ok (.aload_n 0, 1) := by decide +kernel
theorem dX3_has_6 : decode cX3_has 6 = .ok (.getfield 28, 3) := by decide +kernel
theorem dX3_has_9 : decode cX3_has 9 = .ok (.if_icmp .ge 7, 3) := by decide +kernel
theorem dX3_has_12 : decode cX3_has 12 = .ok (.iconst 1, 1) := by decide +kernel
theorem dX3_has_13 : decode cX3_has 13 = .ok (.goto 4, 3) := by decide +kernel
theorem dX3_has_16 : decode cX3_has 16 = .ok (.iconst 0, 1) := by decide +kernel
theorem dX3_has_17 : decode cX3_has 17 = .ok (.ireturn, 1) := by decide +kernel
theorem dX3_add_0 : decode cX3_add 0 = .ok (.aload_n 0, 1) := by decide +kernel
theorem dX3_add_1 : decode cX3_add 1 = .ok (.getfield 28, 3) := by decide +kernel
theorem dX3_add_4 : decode cX3_add 4 = .ok (.iconst 4, 1) := by decide +kernel
theorem dX3_add_5 : decode cX3_add 5 = .ok (.if_icmp .lt 5, 3) := by decide +kernel
theorem dX3_add_8 : decode cX3_add 8 = .ok (.iconst (-1), 1) := by decide +kernel
theorem dX3_add_9 : decode cX3_add 9 = .ok (.ireturn, 1) := by decide +kernel
theorem dX3_add_10 : decode cX3_add 10 = .ok (.aload_n 0, 1) := by decide +kernel
theorem dX3_add_11 : decode cX3_add 11 = .ok (.getfield 28, 3) := by decide +kernel
theorem dX3_add_14 : decode cX3_add 14 = .ok (.istore_n 2, 1) := by decide +kernel
theorem dX3_add_15 : decode cX3_add 15 = .ok (.aload_n 0, 1) := by decide +kernel
theorem dX3_add_16 : decode cX3_add 16 = .ok (.getfield 9, 3) := by decide +kernel
theorem dX3_add_19 : decode cX3_add 19 = .ok (.iload_n 2, 1) := by decide +kernel
theorem dX3_add_20 : decode cX3_add 20 = .ok (.iload_n 1, 1) := by decide +kernel
theorem dX3_add_21 : decode cX3_add 21 = .ok (.iastore, 1) := by decide +kernel
theorem dX3_add_22 : decode cX3_add 22 = .ok (.aload_n 0, 1) := by decide +kernel
theorem dX3_add_23 : decode cX3_add 23 = .ok (.getfield 15, 3) := by decide +kernel
theorem dX3_add_26 : decode cX3_add 26 = .ok (.iload_n 2, 1) := by decide +kernel
theorem dX3_add_27 : decode cX3_add 27 = .ok (.iconst 0, 1) := by decide +kernel
theorem dX3_add_28 : decode cX3_add 28 = .ok (.iastore, 1) := by decide +kernel
theorem dX3_add_29 : decode cX3_add 29 = .ok (.aload_n 0, 1) := by decide +kernel
theorem dX3_add_30 : decode cX3_add 30 = .ok (.getfield 18, 3) := by decide +kernel
theorem dX3_add_33 : decode cX3_add 33 = .ok (.iload_n 2, 1) := by decide +kernel
theorem dX3_add_34 : decode cX3_add 34 = .ok (.bipush 40, 2) := by decide +kernel
theorem dX3_add_36 : decode cX3_add 36 = .ok (.iastore, 1) := by decide +kernel
theorem dX3_add_37 : decode cX3_add 37 = .ok (.aload_n 0, 1) := by decide +kernel
theorem dX3_add_38 : decode cX3_add 38 = .ok (.getfield 21, 3) := by decide +kernel
theorem dX3_add_41 : decode cX3_add 41 = .ok (.iload_n 2, 1) := by decide +kernel
theorem dX3_add_42 : decode cX3_add 42 = .ok (.iconst 0, 1) := by decide +kernel
theorem dX3_add_43 : decode cX3_add 43 = .ok (.iastore, 1) := by decide +kernel
theorem dX3_add_44 : decode cX3_add 44 = .ok (.aload_n 0, 1) := by decide +kernel
theorem dX3_add_45 : decode cX3_add 45 = .ok (.getfield 24, 3) := by decide +kernel
theorem dX3_add_48 : decode cX3_add 48 = .ok (.iload_n 2, 1) := by decide +kernel
theorem dX3_add_49 : decode cX3_add 49 = .ok (.iconst 0, 1) := by decide +kernel
theorem dX3_add_50 : decode cX3_add 50 = .ok (.bastore, 1) := by decide +kernel
theorem dX3_add_51 : decode cX3_add 51 = .ok (.aload_n 0, 1) := by decide +kernel
theorem dX3_add_52 : decode cX3_add 52 = .ok (.dup, 1) := by decide +kernel
theorem dX3_add_53 : decode cX3_add 53 = .ok (.getfield 28, 3) := by decide +kernel
theorem dX3_add_56 : decode cX3_add 56 = .ok (.iconst 1, 1) := by decide +kernel
theorem dX3_add_57 : decode cX3_add 57 = .ok (.iadd, 1) := by decide +kernel
theorem dX3_add_58 : decode cX3_add 58 = .ok (.putfield 28, 3) := by decide +kernel
theorem dX3_add_61 : decode cX3_add 61 = .ok (.iload_n 2, 1) := by decide +kernel
theorem dX3_add_62 : decode cX3_add 62 = .ok (.ireturn, 1) := by decide +kernel
theorem dX3_pourIn_0 : decode cX3_pourIn 0 = .ok (.aload_n 0, 1) := by decide +kernel
theorem dX3_pourIn_1 : decode cX3_pourIn 1 = .ok (.getfield 15, 3) := by decide +kernel
theorem dX3_pourIn_4 : decode cX3_pourIn 4 = .ok (.iload_n 1, 1) := by decide +kernel
theorem dX3_pourIn_5 : decode cX3_pourIn 5 = .ok (.iaload, 1) := by decide +kernel
theorem dX3_pourIn_6 : decode cX3_pourIn 6 = .ok (.istore_n 3, 1) := by decide +kernel
theorem dX3_pourIn_7 : decode cX3_pourIn 7 = .ok (.iload_n 3, 1) := by decide +kernel
theorem dX3_pourIn_8 : decode cX3_pourIn 8 = .ok (.iload_n 2, 1) := by decide +kernel
theorem dX3_pourIn_9 : decode cX3_pourIn 9 = .ok (.iadd, 1) := by decide +kernel
theorem dX3_pourIn_10 : decode cX3_pourIn 10 = .ok (.istore 4, 2) := by decide +kernel
theorem dX3_pourIn_12 : decode cX3_pourIn 12 = .ok (.iload 4, 2) := by decide +kernel
theorem dX3_pourIn_14 : decode cX3_pourIn 14 = .ok (.ifCond .le 26, 3) := by decide +kernel
theorem dX3_pourIn_17 : decode cX3_pourIn 17 = .ok (.aload_n 0, 1) := by decide +kernel
theorem dX3_pourIn_18 : decode cX3_pourIn 18 = .ok (.getfield 18, 3) := by decide +kernel
theorem dX3_pourIn_21 : decode cX3_pourIn 21 = .ok (.iload_n 1, 1) := by decide +kernel
theorem dX3_pourIn_22 : decode cX3_pourIn 22 = .ok (.bipush 40, 2) := by decide +kernel
theorem dX3_pourIn_24 : decode cX3_pourIn 24 = .ok (.aload_n 0, 1) := by decide +kernel
theorem dX3_pourIn_25 : decode cX3_pourIn 25 = .ok (.getfield 18, 3) := by decide +kernel
theorem dX3_pourIn_28 : decode cX3_pourIn 28 = .ok (.iload_n 1, 1) := by decide +kernel
theorem dX3_pourIn_29 : decode cX3_pourIn 29 = .ok (.iaload, 1) := by decide +kernel
theorem dX3_pourIn_30 : decode cX3_pourIn 30 = .ok (.bipush 40, 2) := by decide +kernel
theorem dX3_pourIn_32 : decode cX3_pourIn 32 = .ok (.isub, 1) := by decide +kernel
theorem dX3_pourIn_33 : decode cX3_pourIn 33 = .ok (.iload_n 3, 1) := by decide +kernel
theorem dX3_pourIn_34 : decode cX3_pourIn 34 = .ok (.imul, 1) := by decide +kernel
theorem dX3_pourIn_35 : decode cX3_pourIn 35 = .ok (.iload 4, 2) := by decide +kernel
theorem dX3_pourIn_37 : decode cX3_pourIn 37 = .ok (.idiv, 1) := by decide +kernel
theorem dX3_pourIn_38 : decode cX3_pourIn 38 = .ok (.iadd, 1) := by decide +kernel
theorem dX3_pourIn_39 : decode cX3_pourIn 39 = .ok (.iastore, 1) := by decide +kernel
theorem dX3_pourIn_40 : decode cX3_pourIn 40 = .ok (.aload_n 0, 1) := by decide +kernel
theorem dX3_pourIn_41 : decode cX3_pourIn 41 = .ok (.getfield 15, 3) := by decide +kernel
theorem dX3_pourIn_44 : decode cX3_pourIn 44 = .ok (.iload_n 1, 1) := by decide +kernel
theorem dX3_pourIn_45 : decode cX3_pourIn 45 = .ok (.iload 4, 2) := by decide +kernel
theorem dX3_pourIn_47 : decode cX3_pourIn 47 = .ok (.iastore, 1) := by decide +kernel
theorem dX3_pourIn_48 : decode cX3_pourIn 48 = .ok (.aload_n 0, 1) := by decide +kernel
theorem dX3_pourIn_49 : decode cX3_pourIn 49 = .ok (.getfield 18, 3) := by decide +kernel
theorem dX3_pourIn_52 : decode cX3_pourIn 52 = .ok (.iload_n 1, 1) := by decide +kernel
theorem dX3_pourIn_53 : decode cX3_pourIn 53 = .ok (.iaload, 1) := by decide +kernel
theorem dX3_pourIn_54 : decode cX3_pourIn 54 = .ok (.ireturn, 1) := by decide +kernel
theorem dX3_turnBurner_0 : decode cX3_turnBurner 0 = .ok (.aload_n 0, 1) := by decide +kernel
theorem dX3_turnBurner_1 : decode cX3_turnBurner 1 = .ok (.getfield 21, 3) := by decide +kernel
theorem dX3_turnBurner_4 : decode cX3_turnBurner 4 = .ok (.iload_n 1, 1) := by decide +kernel
theorem dX3_turnBurner_5 : decode cX3_turnBurner 5 = .ok (.iaload, 1) := by decide +kernel
theorem dX3_turnBurner_6 : decode cX3_turnBurner 6 = .ok (.istore_n 3, 1) := by decide +kernel
theorem dX3_turnBurner_7 : decode cX3_turnBurner 7 = .ok (.aload_n 0, 1) := by decide +kernel
theorem dX3_turnBurner_8 : decode cX3_turnBurner 8 = .ok (.getfield 21, 3) := by decide +kernel
theorem dX3_turnBurner_11 : decode cX3_turnBurner 11 = .ok (.iload_n 1, 1) := by decide +kernel
theorem dX3_turnBurner_12 : decode cX3_turnBurner 12 = .ok (.iload_n 2, 1) := by decide +kernel
theorem dX3_turnBurner_13 : decode cX3_turnBurner 13 = .ok (.iastore, 1) := by decide +kernel
theorem dX3_turnBurner_14 : decode cX3_turnBurner 14 = .ok (.iload_n 3, 1) := by decide +kernel
theorem dX3_turnBurner_15 : decode cX3_turnBurner 15 = .ok (.ireturn, 1) := by decide +kernel
theorem dX3_passMinute_0 : decode cX3_passMinute 0 = .ok (.aload_n 0, 1) := by decide +kernel
theorem dX3_passMinute_1 : decode cX3_passMinute 1 = .ok (.getfield 18, 3) := by decide +kernel
theorem dX3_passMinute_4 : decode cX3_passMinute 4 = .ok (.iload_n 1, 1) := by decide +kernel
theorem dX3_passMinute_5 : decode cX3_passMinute 5 = .ok (.aload_n 0, 1) := by decide +kernel
theorem dX3_passMinute_6 : decode cX3_passMinute 6 = .ok (.getfield 15, 3) := by decide +kernel
theorem dX3_passMinute_9 : decode cX3_passMinute 9 = .ok (.iload_n 1, 1) := by decide +kernel
theorem dX3_passMinute_10 : decode cX3_passMinute 10 = .ok (.iaload, 1) := by decide +kernel
theorem dX3_passMinute_11 : decode cX3_passMinute 11 = .ok (.ifCond .ne 8, 3) := by decide +kernel
theorem dX3_passMinute_14 : decode cX3_passMinute 14 = .ok (.bipush 40, 2) := by decide +kernel
theorem dX3_passMinute_16 : decode cX3_passMinute 16 = .ok (.goto 8, 3) := by decide +kernel
theorem dX3_passMinute_19 : decode cX3_passMinute 19 = .ok (.aload_n 0, 1) := by decide +kernel
theorem dX3_passMinute_20 : decode cX3_passMinute 20 = .ok (.iload_n 1, 1) := by decide +kernel
theorem dX3_passMinute_21 : decode cX3_passMinute 21 = .ok (.invokevirtual 32, 3) := by decide +kernel
theorem dX3_passMinute_24 : decode cX3_passMinute 24 = .ok (.iastore, 1) := by decide +kernel
theorem dX3_passMinute_25 : decode cX3_passMinute 25 = .ok (.aload_n 0, 1) := by decide +kernel
theorem dX3_passMinute_26 : decode cX3_passMinute 26 = .ok (.getfield 24, 3) := by decide +kernel
theorem dX3_passMinute_29 : decode cX3_passMinute 29 = .ok (.iload_n 1, 1) := by decide +kernel
theorem dX3_passMinute_30 : decode cX3_passMinute 30 = .ok (.aload_n 0, 1) := by decide +kernel
theorem dX3_passMinute_31 : decode cX3_passMinute 31 = .ok (.getfield 15, 3) := by decide +kernel
theorem dX3_passMinute_34 : decode cX3_passMinute 34 = .ok (.iload_n 1, 1) := by decide +kernel
theorem dX3_passMinute_35 : decode cX3_passMinute 35 = .ok (.iaload, 1) := by decide +kernel
theorem dX3_passMinute_36 : decode cX3_passMinute 36 = .ok (.ifCond .le 28, 3) := by decide +kernel
theorem dX3_passMinute_39 : decode cX3_passMinute 39 = .ok (.aload_n 0, 1) := by decide +kernel
theorem dX3_passMinute_40 : decode cX3_passMinute 40 = .ok (.getfield 18, 3) := by decide +kernel
theorem dX3_passMinute_43 : decode cX3_passMinute 43 = .ok (.iload_n 1, 1) := by decide +kernel
theorem dX3_passMinute_44 : decode cX3_passMinute 44 = .ok (.iaload, 1) := by decide +kernel
theorem dX3_passMinute_45 : decode cX3_passMinute 45 = .ok (.sipush 200, 3) := by decide +kernel
theorem dX3_passMinute_48 : decode cX3_passMinute 48 = .ok (.if_icmp .ne 16, 3) := by decide +kernel
theorem dX3_passMinute_51 : decode cX3_passMinute 51 = .ok (.aload_n 0, 1) := by decide +kernel
theorem dX3_passMinute_52 : decode cX3_passMinute 52 = .ok (.getfield 21, 3) := by decide +kernel
theorem dX3_passMinute_55 : decode cX3_passMinute 55 = .ok (.iload_n 1, 1) := by decide +kernel
theorem dX3_passMinute_56 : decode cX3_passMinute 56 = .ok (.iaload, 1) := by decide +kernel
theorem dX3_passMinute_57 : decode cX3_passMinute 57 = .ok (.ifCond .le 7, 3) := by decide +kernel
theorem dX3_passMinute_60 : decode cX3_passMinute 60 = .ok (.iconst 1, 1) := by decide +kernel
theorem dX3_passMinute_61 : decode cX3_passMinute 61 = .ok (.goto 4, 3) := by decide +kernel
theorem dX3_passMinute_64 : decode cX3_passMinute 64 = .ok (.iconst 0, 1) := by decide +kernel
theorem dX3_passMinute_65 : decode cX3_passMinute 65 = .ok (.bastore, 1) := by decide +kernel
theorem dX3_passMinute_66 : decode cX3_passMinute 66 = .ok (.aload_n 0, 1) := by decide +kernel
theorem dX3_passMinute_67 : decode cX3_passMinute 67 = .ok (.getfield 24, 3) := by decide +kernel
theorem dX3_passMinute_70 : decode cX3_passMinute 70 = .ok (.iload_n 1, 1) := by decide +kernel
theorem dX3_passMinute_71 : decode cX3_passMinute 71 = .ok (.baload, 1) := by decide +kernel
theorem dX3_passMinute_72 : decode cX3_passMinute 72 = .ok (.ifCond .eq 21, 3) := by decide +kernel
theorem dX3_passMinute_75 : decode cX3_passMinute 75 = .ok (.aload_n 0, 1) := by decide +kernel
theorem dX3_passMinute_76 : decode cX3_passMinute 76 = .ok (.getfield 21, 3) := by decide +kernel
theorem dX3_passMinute_79 : decode cX3_passMinute 79 = .ok (.iload_n 1, 1) := by decide +kernel
theorem dX3_passMinute_80 : decode cX3_passMinute 80 = .ok (.iaload, 1) := by decide +kernel
theorem dX3_passMinute_81 : decode cX3_passMinute 81 = .ok (.aload_n 0, 1) := by decide +kernel
theorem dX3_passMinute_82 : decode cX3_passMinute 82 = .ok (.getfield 15, 3) := by decide +kernel
theorem dX3_passMinute_85 : decode cX3_passMinute 85 = .ok (.iload_n 1, 1) := by decide +kernel
theorem dX3_passMinute_86 : decode cX3_passMinute 86 = .ok (.iaload, 1) := by decide +kernel
theorem dX3_passMinute_87 : decode cX3_passMinute 87 = .ok (.invokestatic 36, 3) := by decide +kernel
theorem dX3_passMinute_90 : decode cX3_passMinute 90 = .ok (.goto 4, 3) := by decide +kernel
theorem dX3_passMinute_93 : decode cX3_passMinute 93 = .ok (.iconst 0, 1) := by decide +kernel
theorem dX3_passMinute_94 : decode cX3_passMinute 94 = .ok (.istore_n 2, 1) := by decide +kernel
theorem dX3_passMinute_95 : decode cX3_passMinute 95 = .ok (.aload_n 0, 1) := by decide +kernel
theorem dX3_passMinute_96 : decode cX3_passMinute 96 = .ok (.getfield 15, 3) := by decide +kernel
theorem dX3_passMinute_99 : decode cX3_passMinute 99 = .ok (.iload_n 1, 1) := by decide +kernel
theorem dX3_passMinute_100 : decode cX3_passMinute 100 = .ok (.dup2, 1) := by decide +kernel
theorem dX3_passMinute_101 : decode cX3_passMinute 101 = .ok (.iaload, 1) := by decide +kernel
theorem dX3_passMinute_102 : decode cX3_passMinute 102 = .ok (.iload_n 2, 1) := by decide +kernel
theorem dX3_passMinute_103 : decode cX3_passMinute 103 = .ok (.isub, 1) := by decide +kernel
theorem dX3_passMinute_104 : decode cX3_passMinute 104 = .ok (.iastore, 1) := by decide +kernel
theorem dX3_passMinute_105 : decode cX3_passMinute 105 = .ok (.iload_n 2, 1) := by decide +kernel
theorem dX3_passMinute_106 : decode cX3_passMinute 106 = .ok (.ireturn, 1) := by decide +kernel
theorem dX3_heated_0 : decode cX3_heated 0 = .ok (.bipush 40, 2) := by decide +kernel
theorem dX3_heated_2 : decode cX3_heated 2 = .ok (.sipush 200, 3) := by decide +kernel
theorem dX3_heated_5 : decode cX3_heated 5 = .ok (.aload_n 0, 1) := by decide +kernel
theorem dX3_heated_6 : decode cX3_heated 6 = .ok (.getfield 18, 3) := by decide +kernel
theorem dX3_heated_9 : decode cX3_heated 9 = .ok (.iload_n 1, 1) := by decide +kernel
theorem dX3_heated_10 : decode cX3_heated 10 = .ok (.iaload, 1) := by decide +kernel
theorem dX3_heated_11 : decode cX3_heated 11 = .ok (.aload_n 0, 1) := by decide +kernel
theorem dX3_heated_12 : decode cX3_heated 12 = .ok (.iload_n 1, 1) := by decide +kernel
theorem dX3_heated_13 : decode cX3_heated 13 = .ok (.invokevirtual 42, 3) := by decide +kernel
theorem dX3_heated_16 : decode cX3_heated 16 = .ok (.iadd, 1) := by decide +kernel
theorem dX3_heated_17 : decode cX3_heated 17 = .ok (.invokestatic 36, 3) := by decide +kernel
theorem dX3_heated_20 : decode cX3_heated 20 = .ok (.invokestatic 45, 3) := by decide +kernel
theorem dX3_heated_23 : decode cX3_heated 23 = .ok (.ireturn, 1) := by decide +kernel
theorem dX3_rise_0 : decode cX3_rise 0 = .ok (.iconst 3, 1) := by decide +kernel
theorem dX3_rise_1 : decode cX3_rise 1 = .ok (.aload_n 0, 1) := by decide +kernel
theorem dX3_rise_2 : decode cX3_rise 2 = .ok (.getfield 21, 3) := by decide +kernel
theorem dX3_rise_5 : decode cX3_rise 5 = .ok (.iload_n 1, 1) := by decide +kernel
theorem dX3_rise_6 : decode cX3_rise 6 = .ok (.iaload, 1) := by decide +kernel
theorem dX3_rise_7 : decode cX3_rise 7 = .ok (.imul, 1) := by decide +kernel
theorem dX3_rise_8 : decode cX3_rise 8 = .ok (.iconst 1, 1) := by decide +kernel
theorem dX3_rise_9 : decode cX3_rise 9 = .ok (.isub, 1) := by decide +kernel
theorem dX3_rise_10 : decode cX3_rise 10 = .ok (.ireturn, 1) := by decide +kernel
theorem dX3_heatingTime_0 : decode cX3_heatingTime 0 = .ok (.aload_n 0, 1) := by decide +kernel
theorem dX3_heatingTime_1 : decode cX3_heatingTime 1 = .ok (.iload_n 1, 1) := by decide +kernel
theorem dX3_heatingTime_2 : decode cX3_heatingTime 2 = .ok (.invokevirtual 42, 3) := by decide +kernel
theorem dX3_heatingTime_5 : decode cX3_heatingTime 5 = .ok (.istore_n 2, 1) := by decide +kernel
theorem dX3_heatingTime_6 : decode cX3_heatingTime 6 = .ok (.aload_n 0, 1) := by decide +kernel
theorem dX3_heatingTime_7 : decode cX3_heatingTime 7 = .ok (.getfield 15, 3) := by decide +kernel
theorem dX3_heatingTime_10 : decode cX3_heatingTime 10 = .ok (.iload_n 1, 1) := by decide +kernel
theorem dX3_heatingTime_11 : decode cX3_heatingTime 11 = .ok (.iaload, 1) := by decide +kernel
theorem dX3_heatingTime_12 : decode cX3_heatingTime 12 = .ok (.ifCond .eq 7, 3) := by decide +kernel
theorem dX3_heatingTime_15 : decode cX3_heatingTime 15 = .ok (.iload_n 2, 1) := by decide +kernel
theorem dX3_heatingTime_16 : decode cX3_heatingTime 16 = .ok (.ifCond .gt 5, 3) := by decide +kernel
theorem dX3_heatingTime_19 : decode cX3_heatingTime 19 = .ok (.iconst (-1), 1) := by decide +kernel
theorem dX3_heatingTime_20 : decode cX3_heatingTime 20 = .ok (.ireturn, 1) := by decide +kernel
theorem dX3_heatingTime_21 : decode cX3_heatingTime 21 = .ok (.sipush 200, 3) := by decide +kernel
theorem dX3_heatingTime_24 : decode cX3_heatingTime 24 = .ok (.aload_n 0, 1) := by decide +kernel
theorem dX3_heatingTime_25 : decode cX3_heatingTime 25 = .ok (.getfield 18, 3) := by decide +kernel
theorem dX3_heatingTime_28 : decode cX3_heatingTime 28 = .ok (.iload_n 1, 1) := by decide +kernel
theorem dX3_heatingTime_29 : decode cX3_heatingTime 29 = .ok (.iaload, 1) := by decide +kernel
theorem dX3_heatingTime_30 : decode cX3_heatingTime 30 = .ok (.isub, 1) := by decide +kernel
theorem dX3_heatingTime_31 : decode cX3_heatingTime 31 = .ok (.istore_n 3, 1) := by decide +kernel
theorem dX3_heatingTime_32 : decode cX3_heatingTime 32 = .ok (.iconst 1, 1) := by decide +kernel
theorem dX3_heatingTime_33 : decode cX3_heatingTime 33 = .ok (.iload_n 3, 1) := by decide +kernel
theorem dX3_heatingTime_34 : decode cX3_heatingTime 34 = .ok (.iload_n 2, 1) := by decide +kernel
theorem dX3_heatingTime_35 : decode cX3_heatingTime 35 = .ok (.iadd, 1) := by decide +kernel
theorem dX3_heatingTime_36 : decode cX3_heatingTime 36 = .ok (.iconst 1, 1) := by decide +kernel
theorem dX3_heatingTime_37 : decode cX3_heatingTime 37 = .ok (.isub, 1) := by decide +kernel
theorem dX3_heatingTime_38 : decode cX3_heatingTime 38 = .ok (.iload_n 2, 1) := by decide +kernel
theorem dX3_heatingTime_39 : decode cX3_heatingTime 39 = .ok (.idiv, 1) := by decide +kernel
theorem dX3_heatingTime_40 : decode cX3_heatingTime 40 = .ok (.invokestatic 45, 3) := by decide +kernel
theorem dX3_heatingTime_43 : decode cX3_heatingTime 43 = .ok (.ireturn, 1) := by decide +kernel
theorem dX3_suitable_0 : decode cX3_suitable 0 = .ok (.iconst (-1), 1) := by decide +kernel
theorem dX3_suitable_1 : decode cX3_suitable 1 = .ok (.istore_n 3, 1) := by decide +kernel
theorem dX3_suitable_2 : decode cX3_suitable 2 = .ok (.iload_n 2, 1) := by decide +kernel
theorem dX3_suitable_3 : decode cX3_suitable 3 = .ok (.iconst 2, 1) := by decide +kernel
theorem dX3_suitable_4 : decode cX3_suitable 4 = .ok (.imul, 1) := by decide +kernel
theorem dX3_suitable_5 : decode cX3_suitable 5 = .ok (.iconst 1, 1) := by decide +kernel
theorem dX3_suitable_6 : decode cX3_suitable 6 = .ok (.isub, 1) := by decide +kernel
theorem dX3_suitable_7 : decode cX3_suitable 7 = .ok (.istore 4, 2) := by decide +kernel
theorem dX3_suitable_9 : decode cX3_suitable 9 = .ok (.iconst 0, 1) := by decide +kernel
theorem dX3_suitable_10 : decode cX3_suitable 10 = .ok (.istore 5, 2) := by decide +kernel
theorem dX3_suitable_12 : decode cX3_suitable 12 = .ok (.iload 5, 2) := by decide +kernel
theorem dX3_suitable_14 : decode cX3_suitable 14 = .ok (.aload_n 0, 1) := by decide +kernel
theorem dX3_suitable_15 : decode cX3_suitable 15 = .ok (.getfield 28, 3) := by decide +kernel
theorem dX3_suitable_18 : decode cX3_suitable 18 = .ok (.if_icmp .ge 46, 3) := by decide +kernel
theorem dX3_suitable_21 : decode cX3_suitable 21 = .ok (.aload_n 0, 1) := by decide +kernel
theorem dX3_suitable_22 : decode cX3_suitable 22 = .ok (.getfield 15, 3) := by decide +kernel
theorem dX3_suitable_25 : decode cX3_suitable 25 = .ok (.iload 5, 2) := by decide +kernel
theorem dX3_suitable_27 : decode cX3_suitable 27 = .ok (.iaload, 1) := by decide +kernel
theorem dX3_suitable_28 : decode cX3_suitable 28 = .ok (.iload_n 1, 1) := by decide +kernel
theorem dX3_suitable_29 : decode cX3_suitable 29 = .ok (.iconst 2, 1) := by decide +kernel
theorem dX3_suitable_30 : decode cX3_suitable 30 = .ok (.imul, 1) := by decide +kernel
theorem dX3_suitable_31 : decode cX3_suitable 31 = .ok (.if_icmp .lt 27, 3) := by decide +kernel
theorem dX3_suitable_34 : decode cX3_suitable 34 = .ok (.aload_n 0, 1) := by decide +kernel
theorem dX3_suitable_35 : decode cX3_suitable 35 = .ok (.getfield 18, 3) := by decide +kernel
theorem dX3_suitable_38 : decode cX3_suitable 38 = .ok (.iload 5, 2) := by decide +kernel
theorem dX3_suitable_40 : decode cX3_suitable 40 = .ok (.iaload, 1) := by decide +kernel
theorem dX3_suitable_41 : decode cX3_suitable 41 = .ok (.iload 4, 2) := by decide +kernel
theorem dX3_suitable_43 : decode cX3_suitable 43 = .ok (.if_icmp .le 15, 3) := by decide +kernel
theorem dX3_suitable_46 : decode cX3_suitable 46 = .ok (.iload 5, 2) := by decide +kernel
theorem dX3_suitable_48 : decode cX3_suitable 48 = .ok (.istore_n 3, 1) := by decide +kernel
theorem dX3_suitable_49 : decode cX3_suitable 49 = .ok (.aload_n 0, 1) := by decide +kernel
theorem dX3_suitable_50 : decode cX3_suitable 50 = .ok (.getfield 18, 3) := by decide +kernel
theorem dX3_suitable_53 : decode cX3_suitable 53 = .ok (.iload 5, 2) := by decide +kernel
theorem dX3_suitable_55 : decode cX3_suitable 55 = .ok (.iaload, 1) := by decide +kernel
theorem dX3_suitable_56 : decode cX3_suitable 56 = .ok (.istore 4, 2) := by decide +kernel
theorem dX3_suitable_58 : decode cX3_suitable 58 = .ok (.iinc 5 1, 3) := by decide +kernel
theorem dX3_suitable_61 : decode cX3_suitable 61 = .ok (.goto (-49), 3) := by decide +kernel
theorem dX3_suitable_64 : decode cX3_suitable 64 = .ok (.iload_n 3, 1) := by decide +kernel
theorem dX3_suitable_65 : decode cX3_suitable 65 = .ok (.ireturn, 1) := by decide +kernel
theorem dX3_ranked_0 : decode cX3_ranked 0 = .ok (.iconst 0, 1) := by decide +kernel
theorem dX3_ranked_1 : decode cX3_ranked 1 = .ok (.istore_n 2, 1) := by decide +kernel
theorem dX3_ranked_2 : decode cX3_ranked 2 = .ok (.iload_n 2, 1) := by decide +kernel
theorem dX3_ranked_3 : decode cX3_ranked 3 = .ok (.aload_n 0, 1) := by decide +kernel
theorem dX3_ranked_4 : decode cX3_ranked 4 = .ok (.getfield 28, 3) := by decide +kernel
theorem dX3_ranked_7 : decode cX3_ranked 7 = .ok (.if_icmp .ge 20, 3) := by decide +kernel
theorem dX3_ranked_10 : decode cX3_ranked 10 = .ok (.aload_n 0, 1) := by decide +kernel
theorem dX3_ranked_11 : decode cX3_ranked 11 = .ok (.iload_n 2, 1) := by decide +kernel
theorem dX3_ranked_12 : decode cX3_ranked 12 = .ok (.invokevirtual 48, 3) := by decide +kernel
theorem dX3_ranked_15 : decode cX3_ranked 15 = .ok (.iload_n 1, 1) := by decide +kernel
theorem dX3_ranked_16 : decode cX3_ranked 16 = .ok (.if_icmp .ne 5, 3) := by decide +kernel
theorem dX3_ranked_19 : decode cX3_ranked 19 = .ok (.iload_n 2, 1) := by decide +kernel
theorem dX3_ranked_20 : decode cX3_ranked 20 = .ok (.ireturn, 1) := by decide +kernel
theorem dX3_ranked_21 : decode cX3_ranked 21 = .ok (.iinc 2 1, 3) := by decide +kernel
theorem dX3_ranked_24 : decode cX3_ranked 24 = .ok (.goto (-22), 3) := by decide +kernel
theorem dX3_ranked_27 : decode cX3_ranked 27 = .ok (.iconst (-1), 1) := by decide +kernel
theorem dX3_ranked_28 : decode cX3_ranked 28 = .ok (.ireturn, 1) := by decide +kernel
theorem dX3_rankOf_0 : decode cX3_rankOf 0 = .ok (.iconst 0, 1) := by decide +kernel
theorem dX3_rankOf_1 : decode cX3_rankOf 1 = .ok (.istore_n 2, 1) := by decide +kernel
theorem dX3_rankOf_2 : decode cX3_rankOf 2 = .ok (.iconst 0, 1) := by decide +kernel
theorem dX3_rankOf_3 : decode cX3_rankOf 3 = .ok (.istore_n 3, 1) := by decide +kernel
theorem dX3_rankOf_4 : decode cX3_rankOf 4 = .ok (.iload_n 3, 1) := by decide +kernel
theorem dX3_rankOf_5 : decode cX3_rankOf 5 = .ok (.aload_n 0, 1) := by decide +kernel
theorem dX3_rankOf_6 : decode cX3_rankOf 6 = .ok (.getfield 28, 3) := by decide +kernel
theorem dX3_rankOf_9 : decode cX3_rankOf 9 = .ok (.if_icmp .ge 21, 3) := by decide +kernel
theorem dX3_rankOf_12 : decode cX3_rankOf 12 = .ok (.aload_n 0, 1) := by decide +kernel
theorem dX3_rankOf_13 : decode cX3_rankOf 13 = .ok (.iload_n 3, 1) := by decide +kernel
theorem dX3_rankOf_14 : decode cX3_rankOf 14 = .ok (.iload_n 1, 1) := by decide +kernel
theorem dX3_rankOf_15 : decode cX3_rankOf 15 = .ok (.invokevirtual 51, 3) := by decide +kernel
theorem dX3_rankOf_18 : decode cX3_rankOf 18 = .ok (.ifCond .eq 6, 3) := by decide +kernel
theorem dX3_rankOf_21 : decode cX3_rankOf 21 = .ok (.iinc 2 1, 3) := by decide +kernel
theorem dX3_rankOf_24 : decode cX3_rankOf 24 = .ok (.iinc 3 1, 3) := by decide +kernel
theorem dX3_rankOf_27 : decode cX3_rankOf 27 = .ok (.goto (-23), 3) := by decide +kernel
theorem dX3_rankOf_30 : decode cX3_rankOf 30 = .ok (.iload_n 2, 1) := by decide +kernel
theorem dX3_rankOf_31 : decode cX3_rankOf 31 = .ok (.ireturn, 1) := by decide +kernel
theorem dX3_isAhead_0 : decode cX3_isAhead 0 = .ok (.aload_n 0, 1) := by decide +kernel
theorem dX3_isAhead_1 : decode cX3_isAhead 1 = .ok (.getfield 18, 3) := by decide +kernel
theorem dX3_isAhead_4 : decode cX3_isAhead 4 = .ok (.iload_n 1, 1) := by decide +kernel
theorem dX3_isAhead_5 : decode cX3_isAhead 5 = .ok (.iaload, 1) := by decide +kernel
theorem dX3_isAhead_6 : decode cX3_isAhead 6 = .ok (.aload_n 0, 1) := by decide +kernel
theorem dX3_isAhead_7 : decode cX3_isAhead 7 = .ok (.getfield 18, 3) := by decide +kernel
theorem dX3_isAhead_10 : decode cX3_isAhead 10 = .ok (.iload_n 2, 1) := by decide +kernel
theorem dX3_isAhead_11 : decode cX3_isAhead 11 = .ok (.iaload, 1) := by decide +kernel
theorem dX3_isAhead_12 : decode cX3_isAhead 12 = .ok (.if_icmp .eq 24, 3) := by decide +kernel
theorem dX3_isAhead_15 : decode cX3_isAhead 15 = .ok (.aload_n 0, 1) := by decide +kernel
theorem dX3_isAhead_16 : decode cX3_isAhead 16 = .ok (.getfield 18, 3) := by decide +kernel
theorem dX3_isAhead_19 : decode cX3_isAhead 19 = .ok (.iload_n 1, 1) := by decide +kernel
theorem dX3_isAhead_20 : decode cX3_isAhead 20 = .ok (.iaload, 1) := by decide +kernel
theorem dX3_isAhead_21 : decode cX3_isAhead 21 = .ok (.aload_n 0, 1) := by decide +kernel
theorem dX3_isAhead_22 : decode cX3_isAhead 22 = .ok (.getfield 18, 3) := by decide +kernel
theorem dX3_isAhead_25 : decode cX3_isAhead 25 = .ok (.iload_n 2, 1) := by decide +kernel
theorem dX3_isAhead_26 : decode cX3_isAhead 26 = .ok (.iaload, 1) := by decide +kernel
theorem dX3_isAhead_27 : decode cX3_isAhead 27 = .ok (.if_icmp .le 7, 3) := by decide +kernel
theorem dX3_isAhead_30 : decode cX3_isAhead 30 = .ok (.iconst 1, 1) := by decide +kernel
theorem dX3_isAhead_31 : decode cX3_isAhead 31 = .ok (.goto 4, 3) := by decide +kernel
theorem dX3_isAhead_34 : decode cX3_isAhead 34 = .ok (.iconst 0, 1) := by decide +kernel
theorem dX3_isAhead_35 : decode cX3_isAhead 35 = .ok (.ireturn, 1) := by decide +kernel
theorem dX3_isAhead_36 : decode cX3_isAhead 36 = .ok (.aload_n 0, 1) := by decide +kernel
theorem dX3_isAhead_37 : decode cX3_isAhead 37 = .ok (.getfield 15, 3) := by decide +kernel
theorem dX3_isAhead_40 : decode cX3_isAhead 40 = .ok (.iload_n 1, 1) := by decide +kernel
theorem dX3_isAhead_41 : decode cX3_isAhead 41 = .ok (.iaload, 1) := by decide +kernel
theorem dX3_isAhead_42 : decode cX3_isAhead 42 = .ok (.aload_n 0, 1) := by decide +kernel
theorem dX3_isAhead_43 : decode cX3_isAhead 43 = .ok (.getfield 15, 3) := by decide +kernel
theorem dX3_isAhead_46 : decode cX3_isAhead 46 = .ok (.iload_n 2, 1) := by decide +kernel
theorem dX3_isAhead_47 : decode cX3_isAhead 47 = .ok (.iaload, 1) := by decide +kernel
theorem dX3_isAhead_48 : decode cX3_isAhead 48 = .ok (.if_icmp .eq 24, 3) := by decide +kernel
theorem dX3_isAhead_51 : decode cX3_isAhead 51 = .ok (.aload_n 0, 1) := by decide +kernel
theorem dX3_isAhead_52 : decode cX3_isAhead 52 = .ok (.getfield 15, 3) := by decide +kernel
theorem dX3_isAhead_55 : decode cX3_isAhead 55 = .ok (.iload_n 1, 1) := by decide +kernel
theorem dX3_isAhead_56 : decode cX3_isAhead 56 = .ok (.iaload, 1) := by decide +kernel
theorem dX3_isAhead_57 : decode cX3_isAhead 57 = .ok (.aload_n 0, 1) := by decide +kernel
theorem dX3_isAhead_58 : decode cX3_isAhead 58 = .ok (.getfield 15, 3) := by decide +kernel
theorem dX3_isAhead_61 : decode cX3_isAhead 61 = .ok (.iload_n 2, 1) := by decide +kernel
theorem dX3_isAhead_62 : decode cX3_isAhead 62 = .ok (.iaload, 1) := by decide +kernel
theorem dX3_isAhead_63 : decode cX3_isAhead 63 = .ok (.if_icmp .le 7, 3) := by decide +kernel
theorem dX3_isAhead_66 : decode cX3_isAhead 66 = .ok (.iconst 1, 1) := by decide +kernel
theorem dX3_isAhead_67 : decode cX3_isAhead 67 = .ok (.goto 4, 3) := by decide +kernel
theorem dX3_isAhead_70 : decode cX3_isAhead 70 = .ok (.iconst 0, 1) := by decide +kernel
theorem dX3_isAhead_71 : decode cX3_isAhead 71 = .ok (.ireturn, 1) := by decide +kernel
theorem dX3_isAhead_72 : decode cX3_isAhead 72 = .ok (.iload_n 1, 1) := by decide +kernel
theorem dX3_isAhead_73 : decode cX3_isAhead 73 = .ok (.iload_n 2, 1) := by decide +kernel
theorem dX3_isAhead_74 : decode cX3_isAhead 74 = .ok (.if_icmp .ge 7, 3) := by decide +kernel
theorem dX3_isAhead_77 : decode cX3_isAhead 77 = .ok (.iconst 1, 1) := by decide +kernel
theorem dX3_isAhead_78 : decode cX3_isAhead 78 = .ok (.goto 4, 3) := by decide +kernel
theorem dX3_isAhead_81 : decode cX3_isAhead 81 = .ok (.iconst 0, 1) := by decide +kernel
theorem dX3_isAhead_82 : decode cX3_isAhead 82 = .ok (.ireturn, 1) := by decide +kernel
theorem dX3_isRankedOnceEach_0 : decode cX3_isRankedOnceEach 0 = .ok (.iconst 0, 1) := by decide +kernel
theorem dX3_isRankedOnceEach_1 : decode cX3_isRankedOnceEach 1 = .ok (.istore_n 1, 1) := by decide +kernel
theorem dX3_isRankedOnceEach_2 : decode cX3_isRankedOnceEach 2 = .ok (.iconst 0, 1) := by decide +kernel
theorem dX3_isRankedOnceEach_3 : decode cX3_isRankedOnceEach 3 = .ok (.istore_n 2, 1) := by decide +kernel
theorem dX3_isRankedOnceEach_4 : decode cX3_isRankedOnceEach 4 = .ok (.iload_n 2, 1) := by decide +kernel
theorem dX3_isRankedOnceEach_5 : decode cX3_isRankedOnceEach 5 = .ok (.aload_n 0, 1) := by decide +kernel
theorem dX3_isRankedOnceEach_6 : decode cX3_isRankedOnceEach 6 = .ok (.getfield 28, 3) := by decide +kernel
theorem dX3_isRankedOnceEach_9 : decode cX3_isRankedOnceEach 9 = .ok (.if_icmp .ge 39, 3) := by decide +kernel
theorem dX3_isRankedOnceEach_12 : decode cX3_isRankedOnceEach 12 = .ok (.aload_n 0, 1) := by decide +kernel
theorem dX3_isRankedOnceEach_13 : decode cX3_isRankedOnceEach 13 = .ok (.iload_n 2, 1) := by decide +kernel
theorem dX3_isRankedOnceEach_14 : decode cX3_isRankedOnceEach 14 = .ok (.invokevirtual 55, 3) := by decide +kernel
theorem dX3_isRankedOnceEach_17 : decode cX3_isRankedOnceEach 17 = .ok (.istore_n 3, 1) := by decide +kernel
theorem dX3_isRankedOnceEach_18 : decode cX3_isRankedOnceEach 18 = .ok (.aload_n 0, 1) := by decide +kernel
theorem dX3_isRankedOnceEach_19 : decode cX3_isRankedOnceEach 19 = .ok (.iload_n 3, 1) := by decide +kernel
theorem dX3_isRankedOnceEach_20 : decode cX3_isRankedOnceEach 20 = .ok (.invokevirtual 58, 3) := by decide +kernel
theorem dX3_isRankedOnceEach_23 : decode cX3_isRankedOnceEach 23 = .ok (.ifCond .eq 11, 3) := by decide +kernel
theorem dX3_isRankedOnceEach_26 : decode cX3_isRankedOnceEach 26 = .ok (.iload_n 1, 1) := by decide +kernel
theorem dX3_isRankedOnceEach_27 : decode cX3_isRankedOnceEach 27 = .ok (.iconst 1, 1) := by decide +kernel
theorem dX3_isRankedOnceEach_28 : decode cX3_isRankedOnceEach 28 = .ok (.iload_n 3, 1) := by decide +kernel
theorem dX3_isRankedOnceEach_29 : decode cX3_isRankedOnceEach 29 = .ok (.ishl, 1) := by decide +kernel
theorem dX3_isRankedOnceEach_30 : decode cX3_isRankedOnceEach 30 = .ok (.iand, 1) := by decide +kernel
theorem dX3_isRankedOnceEach_31 : decode cX3_isRankedOnceEach 31 = .ok (.ifCond .eq 5, 3) := by decide +kernel
theorem dX3_isRankedOnceEach_34 : decode cX3_isRankedOnceEach 34 = .ok (.iconst 0, 1) := by decide +kernel
theorem dX3_isRankedOnceEach_35 : decode cX3_isRankedOnceEach 35 = .ok (.ireturn, 1) := by decide +kernel
theorem dX3_isRankedOnceEach_36 : decode cX3_isRankedOnceEach 36 = .ok (.iload_n 1, 1) := by decide +kernel
theorem dX3_isRankedOnceEach_37 : decode cX3_isRankedOnceEach 37 = .ok (.iconst 1, 1) := by decide +kernel
theorem dX3_isRankedOnceEach_38 : decode cX3_isRankedOnceEach 38 = .ok (.iload_n 3, 1) := by decide +kernel
theorem dX3_isRankedOnceEach_39 : decode cX3_isRankedOnceEach 39 = .ok (.ishl, 1) := by decide +kernel
theorem dX3_isRankedOnceEach_40 : decode cX3_isRankedOnceEach 40 = .ok (.ior, 1) := by decide +kernel
theorem dX3_isRankedOnceEach_41 : decode cX3_isRankedOnceEach 41 = .ok (.istore_n 1, 1) := by decide +kernel
theorem dX3_isRankedOnceEach_42 : decode cX3_isRankedOnceEach 42 = .ok (.iinc 2 1, 3) := by decide +kernel
theorem dX3_isRankedOnceEach_45 : decode cX3_isRankedOnceEach 45 = .ok (.goto (-41), 3) := by decide +kernel
theorem dX3_isRankedOnceEach_48 : decode cX3_isRankedOnceEach 48 = .ok (.iconst 1, 1) := by decide +kernel
theorem dX3_isRankedOnceEach_49 : decode cX3_isRankedOnceEach 49 = .ok (.ireturn, 1) := by decide +kernel
theorem dX3_totalVolume_0 : decode cX3_totalVolume 0 = .ok (.iconst 0, 1) := by decide +kernel
theorem dX3_totalVolume_1 : decode cX3_totalVolume 1 = .ok (.istore_n 1, 1) := by decide +kernel
theorem dX3_totalVolume_2 : decode cX3_totalVolume 2 = .ok (.iconst 0, 1) := by decide +kernel
theorem dX3_totalVolume_3 : decode cX3_totalVolume 3 = .ok (.istore_n 2, 1) := by decide +kernel
theorem dX3_totalVolume_4 : decode cX3_totalVolume 4 = .ok (.iload_n 2, 1) := by decide +kernel
theorem dX3_totalVolume_5 : decode cX3_totalVolume 5 = .ok (.aload_n 0, 1) := by decide +kernel
theorem dX3_totalVolume_6 : decode cX3_totalVolume 6 = .ok (.getfield 28, 3) := by decide +kernel
theorem dX3_totalVolume_9 : decode cX3_totalVolume 9 = .ok (.if_icmp .ge 18, 3) := by decide +kernel
theorem dX3_totalVolume_12 : decode cX3_totalVolume 12 = .ok (.iload_n 1, 1) := by decide +kernel
theorem dX3_totalVolume_13 : decode cX3_totalVolume 13 = .ok (.aload_n 0, 1) := by decide +kernel
theorem dX3_totalVolume_14 : decode cX3_totalVolume 14 = .ok (.getfield 15, 3) := by decide +kernel
theorem dX3_totalVolume_17 : decode cX3_totalVolume 17 = .ok (.iload_n 2, 1) := by decide +kernel
theorem dX3_totalVolume_18 : decode cX3_totalVolume 18 = .ok (.iaload, 1) := by decide +kernel
theorem dX3_totalVolume_19 : decode cX3_totalVolume 19 = .ok (.iadd, 1) := by decide +kernel
theorem dX3_totalVolume_20 : decode cX3_totalVolume 20 = .ok (.istore_n 1, 1) := by decide +kernel
theorem dX3_totalVolume_21 : decode cX3_totalVolume 21 = .ok (.iinc 2 1, 3) := by decide +kernel
theorem dX3_totalVolume_24 : decode cX3_totalVolume 24 = .ok (.goto (-20), 3) := by decide +kernel
theorem dX3_totalVolume_27 : decode cX3_totalVolume 27 = .ok (.iload_n 1, 1) := by decide +kernel
theorem dX3_totalVolume_28 : decode cX3_totalVolume 28 = .ok (.ireturn, 1) := by decide +kernel
theorem dX3_describe_0 : decode cX3_describe 0 = .ok (.aload_n 2, 1) := by decide +kernel
theorem dX3_describe_1 : decode cX3_describe 1 = .ok (.bipush 75, 2) := by decide +kernel
theorem dX3_describe_3 : decode cX3_describe 3 = .ok (.invokevirtual 62, 3) := by decide +kernel
theorem dX3_describe_6 : decode cX3_describe 6 = .ok (.iload_n 1, 1) := by decide +kernel
theorem dX3_describe_7 : decode cX3_describe 7 = .ok (.invokevirtual 68, 3) := by decide +kernel
theorem dX3_describe_10 : decode cX3_describe 10 = .ok (.bipush 32, 2) := by decide +kernel
theorem dX3_describe_12 : decode cX3_describe 12 = .ok (.invokevirtual 62, 3) := by decide +kernel
theorem dX3_describe_15 : decode cX3_describe 15 = .ok (.pop, 1) := by decide +kernel
theorem dX3_describe_16 : decode cX3_describe 16 = .ok (.aload_n 2, 1) := by decide +kernel
theorem dX3_describe_17 : decode cX3_describe 17 = .ok (.aload_n 0, 1) := by decide +kernel
theorem dX3_describe_18 : decode cX3_describe 18 = .ok (.getfield 15, 3) := by decide +kernel
theorem dX3_describe_21 : decode cX3_describe 21 = .ok (.iload_n 1, 1) := by decide +kernel
theorem dX3_describe_22 : decode cX3_describe 22 = .ok (.iaload, 1) := by decide +kernel
theorem dX3_describe_23 : decode cX3_describe 23 = .ok (.invokevirtual 68, 3) := by decide +kernel
theorem dX3_describe_26 : decode cX3_describe 26 = .ok (.bipush 47, 2) := by decide +kernel
theorem dX3_describe_28 : decode cX3_describe 28 = .ok (.invokevirtual 62, 3) := by decide +kernel
theorem dX3_describe_31 : decode cX3_describe 31 = .ok (.aload_n 0, 1) := by decide +kernel
theorem dX3_describe_32 : decode cX3_describe 32 = .ok (.getfield 9, 3) := by decide +kernel
theorem dX3_describe_35 : decode cX3_describe 35 = .ok (.iload_n 1, 1) := by decide +kernel
theorem dX3_describe_36 : decode cX3_describe 36 = .ok (.iaload, 1) := by decide +kernel
theorem dX3_describe_37 : decode cX3_describe 37 = .ok (.invokevirtual 68, 3) := by decide +kernel
theorem dX3_describe_40 : decode cX3_describe 40 = .ok (.bipush 32, 2) := by decide +kernel
theorem dX3_describe_42 : decode cX3_describe 42 = .ok (.invokevirtual 62, 3) := by decide +kernel
theorem dX3_describe_45 : decode cX3_describe 45 = .ok (.pop, 1) := by decide +kernel
theorem dX3_describe_46 : decode cX3_describe 46 = .ok (.aload_n 2, 1) := by decide +kernel
theorem dX3_describe_47 : decode cX3_describe 47 = .ok (.aload_n 0, 1) := by decide +kernel
theorem dX3_describe_48 : decode cX3_describe 48 = .ok (.getfield 18, 3) := by decide +kernel
theorem dX3_describe_51 : decode cX3_describe 51 = .ok (.iload_n 1, 1) := by decide +kernel
theorem dX3_describe_52 : decode cX3_describe 52 = .ok (.iaload, 1) := by decide +kernel
theorem dX3_describe_53 : decode cX3_describe 53 = .ok (.invokevirtual 68, 3) := by decide +kernel
theorem dX3_describe_56 : decode cX3_describe 56 = .ok (.bipush 104, 2) := by decide +kernel
theorem dX3_describe_58 : decode cX3_describe 58 = .ok (.invokevirtual 62, 3) := by decide +kernel
theorem dX3_describe_61 : decode cX3_describe 61 = .ok (.pop, 1) := by decide +kernel
theorem dX3_describe_62 : decode cX3_describe 62 = .ok (.aload_n 0, 1) := by decide +kernel
theorem dX3_describe_63 : decode cX3_describe 63 = .ok (.getfield 21, 3) := by decide +kernel
theorem dX3_describe_66 : decode cX3_describe 66 = .ok (.iload_n 1, 1) := by decide +kernel
theorem dX3_describe_67 : decode cX3_describe 67 = .ok (.iaload, 1) := by decide +kernel
theorem dX3_describe_68 : decode cX3_describe 68 = .ok (.ifCond .le 19, 3) := by decide +kernel
theorem dX3_describe_71 : decode cX3_describe 71 = .ok (.aload_n 2, 1) := by decide +kernel
theorem dX3_describe_72 : decode cX3_describe 72 = .ok (.ldc 71, 2) := by decide +kernel
theorem dX3_describe_74 : decode cX3_describe 74 = .ok (.invokevirtual 73, 3) := by decide +kernel
theorem dX3_describe_77 : decode cX3_describe 77 = .ok (.aload_n 0, 1) := by decide +kernel
theorem dX3_describe_78 : decode cX3_describe 78 = .ok (.getfield 21, 3) := by decide +kernel
theorem dX3_describe_81 : decode cX3_describe 81 = .ok (.iload_n 1, 1) := by decide +kernel
theorem dX3_describe_82 : decode cX3_describe 82 = .ok (.iaload, 1) := by decide +kernel
theorem dX3_describe_83 : decode cX3_describe 83 = .ok (.invokevirtual 68, 3) := by decide +kernel
theorem dX3_describe_86 : decode cX3_describe 86 = .ok (.pop, 1) := by decide +kernel
theorem dX3_describe_87 : decode cX3_describe 87 = .ok (.aload_n 0, 1) := by decide +kernel
theorem dX3_describe_88 : decode cX3_describe 88 = .ok (.getfield 24, 3) := by decide +kernel
theorem dX3_describe_91 : decode cX3_describe 91 = .ok (.iload_n 1, 1) := by decide +kernel
theorem dX3_describe_92 : decode cX3_describe 92 = .ok (.baload, 1) := by decide +kernel
theorem dX3_describe_93 : decode cX3_describe 93 = .ok (.ifCond .eq 10, 3) := by decide +kernel
theorem dX3_describe_96 : decode cX3_describe 96 = .ok (.aload_n 2, 1) := by decide +kernel
theorem dX3_describe_97 : decode cX3_describe 97 = .ok (.bipush 33, 2) := by decide +kernel
theorem dX3_describe_99 : decode cX3_describe 99 = .ok (.invokevirtual 62, 3) := by decide +kernel
theorem dX3_describe_102 : decode cX3_describe 102 = .ok (.pop, 1) := by decide +kernel
theorem dX3_describe_103 : decode cX3_describe 103 = .ok (.return_, 1) := by decide +kernel
theorem dX4_init_0 : decode cX4_init 0 = .ok (.aload_n 0, 1) := by decide +kernel
theorem dX4_init_1 : decode cX4_init 1 = .ok (.invokespecial 3, 3) := by decide +kernel
theorem dX4_init_4 : decode cX4_init 4 = .ok (.aload_n 0, 1) := by decide +kernel
theorem dX4_init_5 : decode cX4_init 5 = .ok (.bipush 14, 2) := by decide +kernel
theorem dX4_init_7 : decode cX4_init 7 = .ok (.newarray .int, 2) := by decide +kernel
theorem dX4_init_9 : decode cX4_init 9 = .ok (.putfield 9, 3) := by decide +kernel
theorem dX4_init_12 : decode cX4_init 12 = .ok (.aload_n 0, 1) := by decide +kernel
theorem dX4_init_13 : decode cX4_init 13 = .ok (.bipush 15, 2) := by decide +kernel
theorem dX4_init_15 : decode cX4_init 15 = .ok (.newarray .int, 2) := by decide +kernel
theorem dX4_init_17 : decode cX4_init 17 = .ok (.putfield 15, 3) := by decide +kernel
theorem dX4_init_20 : decode cX4_init 20 = .ok (.aload_n 0, 1) := by decide +kernel
theorem dX4_init_21 : decode cX4_init 21 = .ok (.iconst 0, 1) := by decide +kernel
theorem dX4_init_22 : decode cX4_init 22 = .ok (.putfield 18, 3) := by decide +kernel
theorem dX4_init_25 : decode cX4_init 25 = .ok (.aload_n 0, 1) := by decide +kernel
theorem dX4_init_26 : decode cX4_init 26 = .ok (.iconst 0, 1) := by decide +kernel
theorem dX4_init_27 : decode cX4_init 27 = .ok (.putfield 22, 3) := by decide +kernel
theorem dX4_init_30 : decode cX4_init 30 = .ok (.aload_n 0, 1) := by decide +kernel
theorem dX4_init_31 : decode cX4_init 31 = .ok (.iconst 0, 1) := by decide +kernel
theorem dX4_init_32 : decode cX4_init 32 = .ok (.putfield 25, 3) := by decide +kernel
theorem dX4_init_35 : decode cX4_init 35 = .ok (.aload_n 0, 1) := by decide +kernel
theorem dX4_init_36 : decode cX4_init 36 = .ok (.iconst 0, 1) := by decide +kernel
theorem dX4_init_37 : decode cX4_init 37 = .ok (.putfield 28, 3) := by decide +kernel
theorem dX4_init_40 : decode cX4_init 40 = .ok (.return_, 1) := by decide +kernel
theorem dX4_copyFrom_0 : decode cX4_copyFrom 0 = .ok (.aload_n 0, 1) := by decide +kernel
theorem dX4_copyFrom_1 : decode cX4_copyFrom 1 = .ok (.aload_n 1, 1) := by decide +kernel
theorem dX4_copyFrom_2 : decode cX4_copyFrom 2 = .ok (.getfield 18, 3) := by decide +kernel
theorem dX4_copyFrom_5 : decode cX4_copyFrom 5 = .ok (.putfield 18, 3) := by decide +kernel
theorem dX4_copyFrom_8 : decode cX4_copyFrom 8 = .ok (.aload_n 0, 1) := by decide +kernel
theorem dX4_copyFrom_9 : decode cX4_copyFrom 9 = .ok (.aload_n 1, 1) := by decide +kernel
theorem dX4_copyFrom_10 : decode cX4_copyFrom 10 = .ok (.getfield 22, 3) := by decide +kernel
theorem dX4_copyFrom_13 : decode cX4_copyFrom 13 = .ok (.putfield 22, 3) := by decide +kernel
theorem dX4_copyFrom_16 : decode cX4_copyFrom 16 = .ok (.aload_n 0, 1) := by decide +kernel
theorem dX4_copyFrom_17 : decode cX4_copyFrom 17 = .ok (.aload_n 1, 1) := by decide +kernel
theorem dX4_copyFrom_18 : decode cX4_copyFrom 18 = .ok (.getfield 25, 3) := by decide +kernel
theorem dX4_copyFrom_21 : decode cX4_copyFrom 21 = .ok (.putfield 25, 3) := by decide +kernel
theorem dX4_copyFrom_24 : decode cX4_copyFrom 24 = .ok (.aload_n 0, 1) := by decide +kernel
theorem dX4_copyFrom_25 : decode cX4_copyFrom 25 = .ok (.aload_n 1, 1) := by decide +kernel
theorem dX4_copyFrom_26 : decode cX4_copyFrom 26 = .ok (.getfield 28, 3) := by decide +kernel
theorem dX4_copyFrom_29 : decode cX4_copyFrom 29 = .ok (.putfield 28, 3) := by decide +kernel
theorem dX4_copyFrom_32 : decode cX4_copyFrom 32 = .ok (.iconst 0, 1) := by decide +kernel
theorem dX4_copyFrom_33 : decode cX4_copyFrom 33 = .ok (.istore_n 2, 1) := by decide +kernel
theorem dX4_copyFrom_34 : decode cX4_copyFrom 34 = .ok (.iload_n 2, 1) := by decide +kernel
theorem dX4_copyFrom_35 : decode cX4_copyFrom 35 = .ok (.bipush 14, 2) := by decide +kernel
theorem dX4_copyFrom_37 : decode cX4_copyFrom 37 = .ok (.if_icmp .ge 37, 3) := by decide +kernel
theorem dX4_copyFrom_40 : decode cX4_copyFrom 40 = .ok (.aload_n 0, 1) := by decide +kernel
theorem dX4_copyFrom_41 : decode cX4_copyFrom 41 = .ok (.getfield 9, 3) := by decide +kernel
theorem dX4_copyFrom_44 : decode cX4_copyFrom 44 = .ok (.iload_n 2, 1) := by decide +kernel
theorem dX4_copyFrom_45 : decode cX4_copyFrom 45 = .ok (.aload_n 1, 1) := by decide +kernel
theorem dX4_copyFrom_46 : decode cX4_copyFrom 46 = .ok (.getfield 9, 3) := by decide +kernel
theorem dX4_copyFrom_49 : decode cX4_copyFrom 49 = .ok (.iload_n 2, 1) := by decide +kernel
theorem dX4_copyFrom_50 : decode cX4_copyFrom 50 = .ok (.iaload, 1) := by decide +kernel
theorem dX4_copyFrom_51 : decode cX4_copyFrom 51 = .ok (.iastore, 1) := by decide +kernel
theorem dX4_copyFrom_52 : decode cX4_copyFrom 52 = .ok (.aload_n 0, 1) := by decide +kernel
theorem dX4_copyFrom_53 : decode cX4_copyFrom 53 = .ok (.getfield 15, 3) := by decide +kernel
theorem dX4_copyFrom_56 : decode cX4_copyFrom 56 = .ok (.iload_n 2, 1) := by decide +kernel
theorem dX4_copyFrom_57 : decode cX4_copyFrom 57 = .ok (.iconst 1, 1) := by decide +kernel
theorem dX4_copyFrom_58 : decode cX4_copyFrom 58 = .ok (.iadd, 1) := by decide +kernel
theorem dX4_copyFrom_59 : decode cX4_copyFrom 59 = .ok (.aload_n 1, 1) := by decide +kernel
theorem dX4_copyFrom_60 : decode cX4_copyFrom 60 = .ok (.getfield 15, 3) := by decide +kernel
theorem dX4_copyFrom_63 : decode cX4_copyFrom 63 = .ok (.iload_n 2, 1) := by decide +kernel
theorem dX4_copyFrom_64 : decode cX4_copyFrom 64 = .ok (.iconst 1, 1) := by decide +kernel
theorem dX4_copyFrom_65 : decode cX4_copyFrom 65 = .ok (.iadd, 1) := by decide +kernel
theorem dX4_copyFrom_66 : decode cX4_copyFrom 66 = .ok (.iaload, 1) := by decide +kernel
theorem dX4_copyFrom_67 : decode cX4_copyFrom 67 = .ok (.iastore, 1) := by decide +kernel
theorem dX4_copyFrom_68 : decode cX4_copyFrom 68 = .ok (.iinc 2 1, 3) := by decide +kernel
theorem dX4_copyFrom_71 : decode cX4_copyFrom 71 = .ok (.goto (-37), 3) := by decide +kernel
theorem dX4_copyFrom_74 : decode cX4_copyFrom 74 = .ok (.return_, 1) := by decide +kernel
theorem dX4_enterCups_0 : decode cX4_enterCups 0 = .ok (.aload_n 0, 1) := by decide +kernel
theorem dX4_enterCups_1 : decode cX4_enterCups 1 = .ok (.dup, 1) := by decide +kernel
theorem dX4_enterCups_2 : decode cX4_enterCups 2 = .ok (.getfield 22, 3) := by decide +kernel
theorem dX4_enterCups_5 : decode cX4_enterCups 5 = .ok (.iload_n 1, 1) := by decide +kernel
theorem dX4_enterCups_6 : decode cX4_enterCups 6 = .ok (.iadd, 1) := by decide +kernel
theorem dX4_enterCups_7 : decode cX4_enterCups 7 = .ok (.putfield 22, 3) := by decide +kernel
theorem dX4_enterCups_10 : decode cX4_enterCups 10 = .ok (.aload_n 0, 1) := by decide +kernel
theorem dX4_enterCups_11 : decode cX4_enterCups 11 = .ok (.dup, 1) := by decide +kernel
theorem dX4_enterCups_12 : decode cX4_enterCups 12 = .ok (.getfield 25, 3) := by decide +kernel
theorem dX4_enterCups_15 : decode cX4_enterCups 15 = .ok (.iload_n 1, 1) := by decide +kernel
theorem dX4_enterCups_16 : decode cX4_enterCups 16 = .ok (.iadd, 1) := by decide +kernel
theorem dX4_enterCups_17 : decode cX4_enterCups 17 = .ok (.putfield 25, 3) := by decide +kernel
theorem dX4_enterCups_20 : decode cX4_enterCups 20 = .ok (.return_, 1) := by decide +kernel
theorem dX4_enterSteam_0 : decode cX4_enterSteam 0 = .ok (.aload_n 0, 1) := by decide +kernel
theorem dX4_enterSteam_1 : decode cX4_enterSteam 1 = .ok (.dup, 1) := by decide +kernel
theorem dX4_enterSteam_2 : decode cX4_enterSteam 2 = .ok (.getfield 22, 3) := by decide +kernel
theorem dX4_enterSteam_5 : decode cX4_enterSteam 5 = .ok (.iload_n 1, 1) := by decide +kernel
theorem dX4_enterSteam_6 : decode cX4_enterSteam 6 = .ok (.iadd, 1) := by decide +kernel
theorem dX4_enterSteam_7 : decode cX4_enterSteam 7 = .ok (.putfield 22, 3) := by decide +kernel
theorem dX4_enterSteam_10 : decode cX4_enterSteam 10 = .ok (.aload_n 0, 1) := by decide +kernel
theorem dX4_enterSteam_11 : decode cX4_enterSteam 11 = .ok (.dup, 1) := by decide +kernel
theorem dX4_enterSteam_12 : decode cX4_enterSteam 12 = .ok (.getfield 28, 3) := by decide +kernel
theorem dX4_enterSteam_15 : decode cX4_enterSteam 15 = .ok (.iload_n 1, 1) := by decide +kernel
theorem dX4_enterSteam_16 : decode cX4_enterSteam 16 = .ok (.iadd, 1) := by decide +kernel
theorem dX4_enterSteam_17 : decode cX4_enterSteam 17 = .ok (.putfield 28, 3) := by decide +kernel
theorem dX4_enterSteam_20 : decode cX4_enterSteam 20 = .ok (.return_, 1) := by decide +kernel
theorem dX4_enterNight_0 : decode cX4_enterNight 0 = .ok (.aload_n 0, 1) := by decide +kernel
theorem dX4_enterNight_1 : decode cX4_enterNight 1 = .ok (.getfield 18, 3) := by decide +kernel
theorem dX4_enterNight_4 : decode cX4_enterNight 4 = .ok (.bipush 14, 2) := by decide +kernel
theorem dX4_enterNight_6 : decode cX4_enterNight 6 = .ok (.if_icmp .lt 5, 3) := by decide +kernel
theorem dX4_enterNight_9 : decode cX4_enterNight 9 = .ok (.iconst (-1), 1) := by decide +kernel
theorem dX4_enterNight_10 : decode cX4_enterNight 10 = .ok (.ireturn, 1) := by decide +kernel
theorem dX4_enterNight_11 : decode cX4_enterNight 11 = .ok (.aload_n 0, 1) := by decide +kernel
theorem dX4_enterNight_12 : decode cX4_enterNight 12 = .ok (.getfield 22, 3) := by decide +kernel
theorem dX4_enterNight_15 : decode cX4_enterNight 15 = .ok (.istore_n 1, 1) := by decide +kernel
theorem dX4_enterNight_16 : decode cX4_enterNight 16 = .ok (.aload_n 0, 1) := by decide +kernel
theorem dX4_enterNight_17 : decode cX4_enterNight 17 = .ok (.getfield 9, 3) := by decide +kernel
theorem dX4_enterNight_20 : decode cX4_enterNight 20 = .ok (.aload_n 0, 1) := by decide +kernel
theorem dX4_enterNight_21 : decode cX4_enterNight 21 = .ok (.getfield 18, 3) := by decide +kernel
theorem dX4_enterNight_24 : decode cX4_enterNight 24 = .ok (.iload_n 1, 1) := by decide +kernel
theorem dX4_enterNight_25 : decode cX4_enterNight 25 = .ok (.iastore, 1) := by decide +kernel
theorem dX4_enterNight_26 : decode cX4_enterNight 26 = .ok (.aload_n 0, 1) := by decide +kernel
theorem dX4_enterNight_27 : decode cX4_enterNight 27 = .ok (.getfield 15, 3) := by decide +kernel
theorem dX4_enterNight_30 : decode cX4_enterNight 30 = .ok (.aload_n 0, 1) := by decide +kernel
theorem dX4_enterNight_31 : decode cX4_enterNight 31 = .ok (.getfield 18, 3) := by decide +kernel
theorem dX4_enterNight_34 : decode cX4_enterNight 34 = .ok (.iconst 1, 1) := by decide +kernel
theorem dX4_enterNight_35 : decode cX4_enterNight 35 = .ok (.iadd, 1) := by decide +kernel
theorem dX4_enterNight_36 : decode cX4_enterNight 36 = .ok (.aload_n 0, 1) := by decide +kernel
theorem dX4_enterNight_37 : decode cX4_enterNight 37 = .ok (.getfield 15, 3) := by decide +kernel
theorem dX4_enterNight_40 : decode cX4_enterNight 40 = .ok (.aload_n 0, 1) := by decide +kernel
theorem dX4_enterNight_41 : decode cX4_enterNight 41 = .ok (.getfield 18, 3) := by decide +kernel
theorem dX4_enterNight_44 : decode cX4_enterNight 44 = .ok (.iaload, 1) := by decide +kernel
theorem dX4_enterNight_45 : decode cX4_enterNight 45 = .ok (.iload_n 1, 1) := by decide +kernel
theorem dX4_enterNight_46 : decode cX4_enterNight 46 = .ok (.iadd, 1) := by decide +kernel
theorem dX4_enterNight_47 : decode cX4_enterNight 47 = .ok (.iastore, 1) := by decide +kernel
theorem dX4_enterNight_48 : decode cX4_enterNight 48 = .ok (.aload_n 0, 1) := by decide +kernel
theorem dX4_enterNight_49 : decode cX4_enterNight 49 = .ok (.dup, 1) := by decide +kernel
theorem dX4_enterNight_50 : decode cX4_enterNight 50 = .ok (.getfield 18, 3) := by decide +kernel
theorem dX4_enterNight_53 : decode cX4_enterNight 53 = .ok (.iconst 1, 1) := by decide +kernel
theorem dX4_enterNight_54 : decode cX4_enterNight 54 = .ok (.iadd, 1) := by decide +kernel
theorem dX4_enterNight_55 : decode cX4_enterNight 55 = .ok (.putfield 18, 3) := by decide +kernel
theorem dX4_enterNight_58 : decode cX4_enterNight 58 = .ok (.aload_n 0, 1) := by decide +kernel
theorem dX4_enterNight_59 : decode cX4_enterNight 59 = .ok (.iconst 0, 1) := by decide +kernel
theorem dX4_enterNight_60 : decode cX4_enterNight 60 = .ok (.putfield 22, 3) := by decide +kernel
theorem dX4_enterNight_63 : decode cX4_enterNight 63 = .ok (.iload_n 1, 1) := by decide +kernel
theorem dX4_enterNight_64 : decode cX4_enterNight 64 = .ok (.ireturn, 1) := by decide +kernel
theorem dX4_ranked_0 : decode cX4_ranked 0 = .ok (.iconst 0, 1) := by decide +kernel
theorem dX4_ranked_1 : decode cX4_ranked 1 = .ok (.istore_n 2, 1) := by decide +kernel
theorem dX4_ranked_2 : decode cX4_ranked 2 = .ok (.iload_n 2, 1) := by decide +kernel
theorem dX4_ranked_3 : decode cX4_ranked 3 = .ok (.aload_n 0, 1) := by decide +kernel
theorem dX4_ranked_4 : decode cX4_ranked 4 = .ok (.getfield 18, 3) := by decide +kernel
theorem dX4_ranked_7 : decode cX4_ranked 7 = .ok (.if_icmp .ge 20, 3) := by decide +kernel
theorem dX4_ranked_10 : decode cX4_ranked 10 = .ok (.aload_n 0, 1) := by decide +kernel
theorem dX4_ranked_11 : decode cX4_ranked 11 = .ok (.iload_n 2, 1) := by decide +kernel
theorem dX4_ranked_12 : decode cX4_ranked 12 = .ok (.invokevirtual 31, 3) := by decide +kernel
theorem dX4_ranked_15 : decode cX4_ranked 15 = .ok (.iload_n 1, 1) := by decide +kernel
theorem dX4_ranked_16 : decode cX4_ranked 16 = .ok (.if_icmp .ne 5, 3) := by decide +kernel
theorem dX4_ranked_19 : decode cX4_ranked 19 = .ok (.iload_n 2, 1) := by decide +kernel
theorem dX4_ranked_20 : decode cX4_ranked 20 = .ok (.ireturn, 1) := by decide +kernel
theorem dX4_ranked_21 : decode cX4_ranked 21 = .ok (.iinc 2 1, 3) := by decide +kernel
theorem dX4_ranked_24 : decode cX4_ranked 24 = .ok (.goto (-22), 3) := by decide +kernel
theorem dX4_ranked_27 : decode cX4_ranked 27 = .ok (.iconst (-1), 1) := by decide +kernel
theorem dX4_ranked_28 : decode cX4_ranked 28 = .ok (.ireturn, 1) := by decide +kernel
theorem dX4_rankOf_0 : decode cX4_rankOf 0 = .ok (.iconst 0, 1) := by decide +kernel
theorem dX4_rankOf_1 : decode cX4_rankOf 1 = .ok (.istore_n 2, 1) := by decide +kernel
theorem dX4_rankOf_2 : decode cX4_rankOf 2 = .ok (.iconst 0, 1) := by decide +kernel
theorem dX4_rankOf_3 : decode cX4_rankOf 3 = .ok (.istore_n 3, 1) := by decide +kernel
theorem dX4_rankOf_4 : decode cX4_rankOf 4 = .ok (.iload_n 3, 1) := by decide +kernel
theorem dX4_rankOf_5 : decode cX4_rankOf 5 = .ok (.aload_n 0, 1) := by decide +kernel
theorem dX4_rankOf_6 : decode cX4_rankOf 6 = .ok (.getfield 18, 3) := by decide +kernel
theorem dX4_rankOf_9 : decode cX4_rankOf 9 = .ok (.if_icmp .ge 47, 3) := by decide +kernel
theorem dX4_rankOf_12 : decode cX4_rankOf 12 = .ok (.aload_n 0, 1) := by decide +kernel
theorem dX4_rankOf_13 : decode cX4_rankOf 13 = .ok (.getfield 9, 3) := by decide +kernel
theorem dX4_rankOf_16 : decode cX4_rankOf 16 = .ok (.iload_n 3, 1) := by decide +kernel
theorem dX4_rankOf_17 : decode cX4_rankOf 17 = .ok (.iaload, 1) := by decide +kernel
theorem dX4_rankOf_18 : decode cX4_rankOf 18 = .ok (.aload_n 0, 1) := by decide +kernel
theorem dX4_rankOf_19 : decode cX4_rankOf 19 = .ok (.getfield 9, 3) := by decide +kernel
theorem dX4_rankOf_22 : decode cX4_rankOf 22 = .ok (.iload_n 1, 1) := by decide +kernel
theorem dX4_rankOf_23 : decode cX4_rankOf 23 = .ok (.iaload, 1) := by decide +kernel
theorem dX4_rankOf_24 : decode cX4_rankOf 24 = .ok (.if_icmp .gt 23, 3) := by decide +kernel
theorem dX4_rankOf_27 : decode cX4_rankOf 27 = .ok (.aload_n 0, 1) := by decide +kernel
theorem dX4_rankOf_28 : decode cX4_rankOf 28 = .ok (.getfield 9, 3) := by decide +kernel
theorem dX4_rankOf_31 : decode cX4_rankOf 31 = .ok (.iload_n 3, 1) := by decide +kernel
theorem dX4_rankOf_32 : decode cX4_rankOf 32 = .ok (.iaload, 1) := by decide +kernel
theorem dX4_rankOf_33 : decode cX4_rankOf 33 = .ok (.aload_n 0, 1) := by decide +kernel
theorem dX4_rankOf_34 : decode cX4_rankOf 34 = .ok (.getfield 9, 3) := by decide +kernel
theorem dX4_rankOf_37 : decode cX4_rankOf 37 = .ok (.iload_n 1, 1) := by decide +kernel
theorem dX4_rankOf_38 : decode cX4_rankOf 38 = .ok (.iaload, 1) := by decide +kernel
theorem dX4_rankOf_39 : decode cX4_rankOf 39 = .ok (.if_icmp .ne 11, 3) := by decide +kernel
theorem dX4_rankOf_42 : decode cX4_rankOf 42 = .ok (.iload_n 3, 1) := by decide +kernel
theorem dX4_rankOf_43 : decode cX4_rankOf 43 = .ok (.iload_n 1, 1) := by decide +kernel
theorem dX4_rankOf_44 : decode cX4_rankOf 44 = .ok (.if_icmp .ge 6, 3) := by decide +kernel
theorem dX4_rankOf_47 : decode cX4_rankOf 47 = .ok (.iinc 2 1, 3) := by decide +kernel
theorem dX4_rankOf_50 : decode cX4_rankOf 50 = .ok (.iinc 3 1, 3) := by decide +kernel
theorem dX4_rankOf_53 : decode cX4_rankOf 53 = .ok (.goto (-49), 3) := by decide +kernel
theorem dX4_rankOf_56 : decode cX4_rankOf 56 = .ok (.iload_n 2, 1) := by decide +kernel
theorem dX4_rankOf_57 : decode cX4_rankOf 57 = .ok (.ireturn, 1) := by decide +kernel
theorem dX4_greatestByAdding_0 : decode cX4_greatestByAdding 0 = .ok (.iconst 0, 1) := by decide +kernel
theorem dX4_greatestByAdding_1 : decode cX4_greatestByAdding 1 = .ok (.istore_n 2, 1) := by decide +kernel
theorem dX4_greatestByAdding_2 : decode cX4_greatestByAdding 2 = .ok (.iconst 0, 1) := by decide +kernel
theorem dX4_greatestByAdding_3 : decode cX4_greatestByAdding 3 = .ok (.istore_n 3, 1) := by decide +kernel
theorem dX4_greatestByAdding_4 : decode cX4_greatestByAdding 4 = .ok (.iload_n 3, 1) := by decide +kernel
theorem dX4_greatestByAdding_5 : decode cX4_greatestByAdding 5 = .ok (.aload_n 0, 1) := by decide +kernel
theorem dX4_greatestByAdding_6 : decode cX4_greatestByAdding 6 = .ok (.getfield 18, 3) := by decide +kernel
theorem dX4_greatestByAdding_9 : decode cX4_greatestByAdding 9 = .ok (.iload_n 1, 1) := by decide +kernel
theorem dX4_greatestByAdding_10 : decode cX4_greatestByAdding 10 = .ok (.isub, 1) := by decide +kernel
theorem dX4_greatestByAdding_11 : decode cX4_greatestByAdding 11 = .ok (.if_icmp .gt 48, 3) := by decide +kernel
theorem dX4_greatestByAdding_14 : decode cX4_greatestByAdding 14 = .ok (.iconst 0, 1) := by decide +kernel
theorem dX4_greatestByAdding_15 : decode cX4_greatestByAdding 15 = .ok (.istore 4, 2) := by decide +kernel
theorem dX4_greatestByAdding_17 : decode cX4_greatestByAdding 17 = .ok (.iload_n 3, 1) := by decide +kernel
theorem dX4_greatestByAdding_18 : decode cX4_greatestByAdding 18 = .ok (.istore 5, 2) := by decide +kernel
theorem dX4_greatestByAdding_20 : decode cX4_greatestByAdding 20 = .ok (.iload 5, 2) := by decide +kernel
theorem dX4_greatestByAdding_22 : decode cX4_greatestByAdding 22 = .ok (.iload_n 3, 1) := by decide +kernel
theorem dX4_greatestByAdding_23 : decode cX4_greatestByAdding 23 = .ok (.iload_n 1, 1) := by decide +kernel
theorem dX4_greatestByAdding_24 : decode cX4_greatestByAdding 24 = .ok (.iadd, 1) := by decide +kernel
theorem dX4_greatestByAdding_25 : decode cX4_greatestByAdding 25 = .ok (.if_icmp .ge 21, 3) := by decide +kernel
theorem dX4_greatestByAdding_28 : decode cX4_greatestByAdding 28 = .ok (.iload 4, 2) := by decide +kernel
theorem dX4_greatestByAdding_30 : decode cX4_greatestByAdding 30 = .ok (.aload_n 0, 1) := by decide +kernel
theorem dX4_greatestByAdding_31 : decode cX4_greatestByAdding 31 = .ok (.getfield 9, 3) := by decide +kernel
theorem dX4_greatestByAdding_34 : decode cX4_greatestByAdding 34 = .ok (.iload 5, 2) := by decide +kernel
theorem dX4_greatestByAdding_36 : decode cX4_greatestByAdding 36 = .ok (.iaload, 1) := by decide +kernel
theorem dX4_greatestByAdding_37 : decode cX4_greatestByAdding 37 = .ok (.iadd, 1) := by decide +kernel
theorem dX4_greatestByAdding_38 : decode cX4_greatestByAdding 38 = .ok (.istore 4, 2) := by decide +kernel
theorem dX4_greatestByAdding_40 : decode cX4_greatestByAdding 40 = .ok (.iinc 5 1, 3) := by decide +kernel
theorem dX4_greatestByAdding_43 : decode cX4_greatestByAdding 43 = .ok (.goto (-23), 3) := by decide +kernel
theorem dX4_greatestByAdding_46 : decode cX4_greatestByAdding 46 = .ok (.iload_n 2, 1) := by decide +kernel
theorem dX4_greatestByAdding_47 : decode cX4_greatestByAdding 47 = .ok (.iload 4, 2) := by decide +kernel
theorem dX4_greatestByAdding_49 : decode cX4_greatestByAdding 49 = .ok (.invokestatic 35, 3) := by decide +kernel
theorem dX4_greatestByAdding_52 : decode cX4_greatestByAdding 52 = .ok (.istore_n 2, 1) := by decide +kernel
theorem dX4_greatestByAdding_53 : decode cX4_greatestByAdding 53 = .ok (.iinc 3 1, 3) := by decide +kernel
theorem dX4_greatestByAdding_56 : decode cX4_greatestByAdding 56 = .ok (.goto (-52), 3) := by decide +kernel
theorem dX4_greatestByAdding_59 : decode cX4_greatestByAdding 59 = .ok (.iload_n 2, 1) := by decide +kernel
theorem dX4_greatestByAdding_60 : decode cX4_greatestByAdding 60 = .ok (.ireturn, 1) := by decide +kernel
theorem dX4_greatestByDifferences_0 : decode cX4_greatestByDifferences 0 = .ok (.iconst 0, 1) := by decide +kernel
theorem dX4_greatestByDifferences_1 : decode cX4_greatestByDifferences 1 = .ok (.istore_n 2, 1) := by decide +kernel
theorem dX4_greatestByDifferences_2 : decode cX4_greatestByDifferences 2 = .ok (.iconst 0, 1) := by decide +kernel
theorem dX4_greatestByDifferences_3 : decode cX4_greatestByDifferences 3 = .ok (.istore_n 3, 1) := by decide +kernel
theorem dX4_greatestByDifferences_4 : decode cX4_greatestByDifferences 4 = .ok (.iload_n 3, 1) := by decide +kernel
theorem dX4_greatestByDifferences_5 : decode cX4_greatestByDifferences 5 = .ok (.aload_n 0, 1) := by decide +kernel
theorem dX4_greatestByDifferences_6 : decode cX4_greatestByDifferences 6 = .ok (.getfield 18, 3) := by decide +kernel
theorem dX4_greatestByDifferences_9 : decode cX4_greatestByDifferences 9 = .ok (.iload_n 1, 1) := by decide +kernel
theorem dX4_greatestByDifferences_10 : decode cX4_greatestByDifferences 10 = .ok (.isub, 1) := by decide +kernel
theorem dX4_greatestByDifferences_11 : decode cX4_greatestByDifferences 11 = .ok (.if_icmp .gt 29, 3) := by decide +kernel
theorem dX4_greatestByDifferences_14 : decode cX4_greatestByDifferences 14 = .ok (.iload_n 2, 1) := by decide +kernel
theorem dX4_greatestByDifferences_15 : decode cX4_greatestByDifferences 15 = .ok (.aload_n 0, 1) := by decide +kernel
theorem dX4_greatestByDifferences_16 : decode cX4_greatestByDifferences 16 = .ok (.getfield 15, 3) := by decide +kernel
theorem dX4_greatestByDifferences_19 : decode cX4_greatestByDifferences 19 = .ok (.iload_n 3, 1) := by decide +kernel
theorem dX4_greatestByDifferences_20 : decode cX4_greatestByDifferences 20 = .ok (.iload_n 1, 1) := by decide +kernel
theorem dX4_greatestByDifferences_21 : decode cX4_greatestByDifferences 21 = .ok (.iadd, 1) := by decide +kernel
theorem dX4_greatestByDifferences_22 : decode cX4_greatestByDifferences 22 = .ok (.iaload, 1) := by decide +kernel
theorem dX4_greatestByDifferences_23 : decode cX4_greatestByDifferences 23 = .ok (.aload_n 0, 1) := by decide +kernel
theorem dX4_greatestByDifferences_24 : decode cX4_greatestByDifferences 24 = .ok (.getfield 15, 3) := by decide +kernel
theorem dX4_greatestByDifferences_27 : decode cX4_greatestByDifferences 27 = .ok (.iload_n 3, 1) := by decide +kernel
theorem dX4_greatestByDifferences_28 : decode cX4_greatestByDifferences 28 = .ok (.iaload, 1) := by decide +kernel
theorem dX4_greatestByDifferences_29 : decode cX4_greatestByDifferences 29 = .ok (.isub, 1) := by decide +kernel
theorem dX4_greatestByDifferences_30 : decode cX4_greatestByDifferences 30 = .ok (.invokestatic 35, 3) := by decide +kernel
theorem dX4_greatestByDifferences_33 : decode cX4_greatestByDifferences 33 = .ok (.istore_n 2, 1) := by decide +kernel
theorem dX4_greatestByDifferences_34 : decode cX4_greatestByDifferences 34 = .ok (.iinc 3 1, 3) := by decide +kernel
theorem dX4_greatestByDifferences_37 : decode cX4_greatestByDifferences 37 = .ok (.goto (-33), 3) := by decide +kernel
theorem dX4_greatestByDifferences_40 : decode cX4_greatestByDifferences 40 = .ok (.iload_n 2, 1) := by decide +kernel
theorem dX4_greatestByDifferences_41 : decode cX4_greatestByDifferences 41 = .ok (.ireturn, 1) := by decide +kernel
theorem dX4_totalOfNights_0 : decode cX4_totalOfNights 0 = .ok (.aload_n 0, 1) := by decide +kernel
theorem dX4_totalOfNights_1 : decode cX4_totalOfNights 1 = .ok (.getfield 22, 3) := by decide +kernel
theorem dX4_totalOfNights_4 : decode cX4_totalOfNights 4 = .ok (.istore_n 1, 1) := by decide +kernel
theorem dX4_totalOfNights_5 : decode cX4_totalOfNights 5 = .ok (.iconst 0, 1) := by decide +kernel
theorem dX4_totalOfNights_6 : decode cX4_totalOfNights 6 = .ok (.istore_n 2, 1) := by decide +kernel
theorem dX4_totalOfNights_7 : decode cX4_totalOfNights 7 = .ok (.iload_n 2, 1) := by decide +kernel
theorem dX4_totalOfNights_8 : decode cX4_totalOfNights 8 = .ok (.aload_n 0, 1) := by decide +kernel
theorem dX4_totalOfNights_9 : decode cX4_totalOfNights 9 = .ok (.getfield 18, 3) := by decide +kernel
theorem dX4_totalOfNights_12 : decode cX4_totalOfNights 12 = .ok (.if_icmp .ge 18, 3) := by decide +kernel
theorem dX4_totalOfNights_15 : decode cX4_totalOfNights 15 = .ok (.iload_n 1, 1) := by decide +kernel
theorem dX4_totalOfNights_16 : decode cX4_totalOfNights 16 = .ok (.aload_n 0, 1) := by decide +kernel
theorem dX4_totalOfNights_17 : decode cX4_totalOfNights 17 = .ok (.getfield 9, 3) := by decide +kernel
theorem dX4_totalOfNights_20 : decode cX4_totalOfNights 20 = .ok (.iload_n 2, 1) := by decide +kernel
theorem dX4_totalOfNights_21 : decode cX4_totalOfNights 21 = .ok (.iaload, 1) := by decide +kernel
theorem dX4_totalOfNights_22 : decode cX4_totalOfNights 22 = .ok (.iadd, 1) := by decide +kernel
theorem dX4_totalOfNights_23 : decode cX4_totalOfNights 23 = .ok (.istore_n 1, 1) := by decide +kernel
theorem dX4_totalOfNights_24 : decode cX4_totalOfNights 24 = .ok (.iinc 2 1, 3) := by decide +kernel
theorem dX4_totalOfNights_27 : decode cX4_totalOfNights 27 = .ok (.goto (-20), 3) := by decide +kernel
theorem dX4_totalOfNights_30 : decode cX4_totalOfNights 30 = .ok (.iload_n 1, 1) := by decide +kernel
theorem dX4_totalOfNights_31 : decode cX4_totalOfNights 31 = .ok (.ireturn, 1) := by decide +kernel
theorem dX4_totalOfSales_0 : decode cX4_totalOfSales 0 = .ok (.aload_n 0, 1) := by decide +kernel
theorem dX4_totalOfSales_1 : decode cX4_totalOfSales 1 = .ok (.getfield 25, 3) := by decide +kernel
theorem dX4_totalOfSales_4 : decode cX4_totalOfSales 4 = .ok (.aload_n 0, 1) := by decide +kernel
theorem dX4_totalOfSales_5 : decode cX4_totalOfSales 5 = .ok (.getfield 28, 3) := by decide +kernel
theorem dX4_totalOfSales_8 : decode cX4_totalOfSales 8 = .ok (.iadd, 1) := by decide +kernel
theorem dX4_totalOfSales_9 : decode cX4_totalOfSales 9 = .ok (.ireturn, 1) := by decide +kernel
theorem dX4_isConsistent_0 : decode cX4_isConsistent 0 = .ok (.iconst 1, 1) := by decide +kernel
theorem dX4_isConsistent_1 : decode cX4_isConsistent 1 = .ok (.istore_n 1, 1) := by decide +kernel
theorem dX4_isConsistent_2 : decode cX4_isConsistent 2 = .ok (.iload_n 1, 1) := by decide +kernel
theorem dX4_isConsistent_3 : decode cX4_isConsistent 3 = .ok (.aload_n 0, 1) := by decide +kernel
theorem dX4_isConsistent_4 : decode cX4_isConsistent 4 = .ok (.getfield 18, 3) := by decide +kernel
theorem dX4_isConsistent_7 : decode cX4_isConsistent 7 = .ok (.if_icmp .gt 24, 3) := by decide +kernel
theorem dX4_isConsistent_10 : decode cX4_isConsistent 10 = .ok (.aload_n 0, 1) := by decide +kernel
theorem dX4_isConsistent_11 : decode cX4_isConsistent 11 = .ok (.iload_n 1, 1) := by decide +kernel
theorem dX4_isConsistent_12 : decode cX4_isConsistent 12 = .ok (.invokevirtual 41, 3) := by decide +kernel
theorem dX4_isConsistent_15 : decode cX4_isConsistent 15 = .ok (.aload_n 0, 1) := by decide +kernel
theorem dX4_isConsistent_16 : decode cX4_isConsistent 16 = .ok (.iload_n 1, 1) := by decide +kernel
theorem dX4_isConsistent_17 : decode cX4_isConsistent 17 = .ok (.invokevirtual 44, 3) := by decide +kernel
theorem dX4_isConsistent_20 : decode cX4_isConsistent 20 = .ok (.if_icmp .eq 5, 3) := by decide +kernel
theorem dX4_isConsistent_23 : decode cX4_isConsistent 23 = .ok (.iconst 0, 1) := by decide +kernel
theorem dX4_isConsistent_24 : decode cX4_isConsistent 24 = .ok (.ireturn, 1) := by decide +kernel
theorem dX4_isConsistent_25 : decode cX4_isConsistent 25 = .ok (.iinc 1 1, 3) := by decide +kernel
theorem dX4_isConsistent_28 : decode cX4_isConsistent 28 = .ok (.goto (-26), 3) := by decide +kernel
theorem dX4_isConsistent_31 : decode cX4_isConsistent 31 = .ok (.aload_n 0, 1) := by decide +kernel
theorem dX4_isConsistent_32 : decode cX4_isConsistent 32 = .ok (.invokevirtual 47, 3) := by decide +kernel
theorem dX4_isConsistent_35 : decode cX4_isConsistent 35 = .ok (.aload_n 0, 1) := by decide +kernel
theorem dX4_isConsistent_36 : decode cX4_isConsistent 36 = .ok (.invokevirtual 51, 3) := by decide +kernel
theorem dX4_isConsistent_39 : decode cX4_isConsistent 39 = .ok (.if_icmp .ne 7, 3) := by decide +kernel
theorem dX4_isConsistent_42 : decode cX4_isConsistent 42 = .ok (.iconst 1, 1) := by decide +kernel
theorem dX4_isConsistent_43 : decode cX4_isConsistent 43 = .ok (.goto 4, 3) := by decide +kernel
theorem dX4_isConsistent_46 : decode cX4_isConsistent 46 = .ok (.iconst 0, 1) := by decide +kernel
theorem dX4_isConsistent_47 : decode cX4_isConsistent 47 = .ok (.ireturn, 1) := by decide +kernel
theorem dX4_describe_0 : decode cX4_describe 0 = .ok (.iconst 0, 1) := by decide +kernel
theorem dX4_describe_1 : decode cX4_describe 1 = .ok (.istore_n 2, 1) := by decide +kernel
theorem dX4_describe_2 : decode cX4_describe 2 = .ok (.iload_n 2, 1) := by decide +kernel
theorem dX4_describe_3 : decode cX4_describe 3 = .ok (.aload_n 0, 1) := by decide +kernel
theorem dX4_describe_4 : decode cX4_describe 4 = .ok (.getfield 18, 3) := by decide +kernel
theorem dX4_describe_7 : decode cX4_describe 7 = .ok (.if_icmp .ge 31, 3) := by decide +kernel
theorem dX4_describe_10 : decode cX4_describe 10 = .ok (.iload_n 2, 1) := by decide +kernel
theorem dX4_describe_11 : decode cX4_describe 11 = .ok (.ifCond .le 10, 3) := by decide +kernel
theorem dX4_describe_14 : decode cX4_describe 14 = .ok (.aload_n 1, 1) := by decide +kernel
theorem dX4_describe_15 : decode cX4_describe 15 = .ok (.bipush 32, 2) := by decide +kernel
theorem dX4_describe_17 : decode cX4_describe 17 = .ok (.invokevirtual 54, 3) := by decide +kernel
theorem dX4_describe_20 : decode cX4_describe 20 = .ok (.pop, 1) := by decide +kernel
theorem dX4_describe_21 : decode cX4_describe 21 = .ok (.aload_n 1, 1) := by decide +kernel
theorem dX4_describe_22 : decode cX4_describe 22 = .ok (.aload_n 0, 1) := by decide +kernel
theorem dX4_describe_23 : decode cX4_describe 23 = .ok (.getfield 9, 3) := by decide +kernel
theorem dX4_describe_26 : decode cX4_describe 26 = .ok (.iload_n 2, 1) := by decide +kernel
theorem dX4_describe_27 : decode cX4_describe 27 = .ok (.iaload, 1) := by decide +kernel
theorem dX4_describe_28 : decode cX4_describe 28 = .ok (.invokevirtual 60, 3) := by decide +kernel
theorem dX4_describe_31 : decode cX4_describe 31 = .ok (.pop, 1) := by decide +kernel
theorem dX4_describe_32 : decode cX4_describe 32 = .ok (.iinc 2 1, 3) := by decide +kernel
theorem dX4_describe_35 : decode cX4_describe 35 = .ok (.goto (-33), 3) := by decide +kernel
theorem dX4_describe_38 : decode cX4_describe 38 = .ok (.return_, 1) := by decide +kernel
theorem dX5_init_0 : decode cX5_init 0 = .ok (.aload_n 0, 1) := by decide +kernel
theorem dX5_init_1 : decode cX5_init 1 = .ok (.invokespecial 3, 3) := by decide +kernel
theorem dX5_init_4 : decode cX5_init 4 = .ok (.aload_n 0, 1) := by decide +kernel
theorem dX5_init_5 : decode cX5_init 5 = .ok (.bipush 10, 2) := by decide +kernel
theorem dX5_init_7 : decode cX5_init 7 = .ok (.newarray .int, 2) := by decide +kernel
theorem dX5_init_9 : decode cX5_init 9 = .ok (.putfield 9, 3) := by decide +kernel
theorem dX5_init_12 : decode cX5_init 12 = .ok (.aload_n 0, 1) := by decide +kernel
theorem dX5_init_13 : decode cX5_init 13 = .ok (.bipush 10, 2) := by decide +kernel
theorem dX5_init_15 : decode cX5_init 15 = .ok (.newarray .int, 2) := by decide +kernel
theorem dX5_init_17 : decode cX5_init 17 = .ok (.putfield 15, 3) := by decide +kernel
theorem dX5_init_20 : decode cX5_init 20 = .ok (.aload_n 0, 1) := by decide +kernel
theorem dX5_init_21 : decode cX5_init 21 = .ok (.bipush 10, 2) := by decide +kernel
theorem dX5_init_23 : decode cX5_init 23 = .ok (.newarray .int, 2) := by decide +kernel
theorem dX5_init_25 : decode cX5_init 25 = .ok (.putfield 18, 3) := by decide +kernel
theorem dX5_init_28 : decode cX5_init 28 = .ok (.aload_n 0, 1) := by decide +kernel
theorem dX5_init_29 : decode cX5_init 29 = .ok (.bipush 10, 2) := by decide +kernel
theorem dX5_init_31 : decode cX5_init 31 = .ok (.newarray .int, 2) := by decide +kernel
theorem dX5_init_33 : decode cX5_init 33 = .ok (.putfield 21, 3) := by decide +kernel
theorem dX5_init_36 : decode cX5_init 36 = .ok (.aload_n 0, 1) := by decide +kernel
theorem dX5_init_37 : decode cX5_init 37 = .ok (.bipush 10, 2) := by decide +kernel
theorem dX5_init_39 : decode cX5_init 39 = .ok (.newarray .int, 2) := by decide +kernel
theorem dX5_init_41 : decode cX5_init 41 = .ok (.putfield 24, 3) := by decide +kernel
theorem dX5_init_44 : decode cX5_init 44 = .ok (.aload_n 0, 1) := by decide +kernel
theorem dX5_init_45 : decode cX5_init 45 = .ok (.iconst 0, 1) := by decide +kernel
theorem dX5_init_46 : decode cX5_init 46 = .ok (.putfield 27, 3) := by decide +kernel
theorem dX5_init_49 : decode cX5_init 49 = .ok (.aload_n 0, 1) := by decide +kernel
theorem dX5_init_50 : decode cX5_init 50 = .ok (.iconst 0, 1) := by decide +kernel
theorem dX5_init_51 : decode cX5_init 51 = .ok (.putfield 31, 3) := by decide +kernel
theorem dX5_init_54 : decode cX5_init 54 = .ok (.return_, 1) := by decide +kernel
theorem dX5_copyFrom_0 : decode cX5_copyFrom 0 = .ok (.aload_n 0, 1) := by decide +kernel
theorem dX5_copyFrom_1 : decode cX5_copyFrom 1 = .ok (.aload_n 1, 1) := by decide +kernel
theorem dX5_copyFrom_2 : decode cX5_copyFrom 2 = .ok (.getfield 27, 3) := by decide +kernel
theorem dX5_copyFrom_5 : decode cX5_copyFrom 5 = .ok (.putfield 27, 3) := by decide +kernel
theorem dX5_copyFrom_8 : decode cX5_copyFrom 8 = .ok (.aload_n 0, 1) := by decide +kernel
theorem dX5_copyFrom_9 : decode cX5_copyFrom 9 = .ok (.aload_n 1, 1) := by decide +kernel
theorem dX5_copyFrom_10 : decode cX5_copyFrom 10 = .ok (.getfield 31, 3) := by decide +kernel
theorem dX5_copyFrom_13 : decode cX5_copyFrom 13 = .ok (.putfield 31, 3) := by decide +kernel
theorem dX5_copyFrom_16 : decode cX5_copyFrom 16 = .ok (.iconst 0, 1) := by decide +kernel
theorem dX5_copyFrom_17 : decode cX5_copyFrom 17 = .ok (.istore_n 2, 1) := by decide +kernel
theorem dX5_copyFrom_18 : decode cX5_copyFrom 18 = .ok (.iload_n 2, 1) := by decide +kernel
theorem dX5_copyFrom_19 : decode cX5_copyFrom 19 = .ok (.bipush 10, 2) := by decide +kernel
theorem dX5_copyFrom_21 : decode cX5_copyFrom 21 = .ok (.if_icmp .ge 16, 3) := by decide +kernel
theorem dX5_copyFrom_24 : decode cX5_copyFrom 24 = .ok (.aload_n 0, 1) := by decide +kernel
theorem dX5_copyFrom_25 : decode cX5_copyFrom 25 = .ok (.aload_n 1, 1) := by decide +kernel
theorem dX5_copyFrom_26 : decode cX5_copyFrom 26 = .ok (.iload_n 2, 1) := by decide +kernel
theorem dX5_copyFrom_27 : decode cX5_copyFrom 27 = .ok (.iload_n 2, 1) := by decide +kernel
theorem dX5_copyFrom_28 : decode cX5_copyFrom 28 = .ok (.invokevirtual 34, 3) := by decide +kernel
theorem dX5_copyFrom_31 : decode cX5_copyFrom 31 = .ok (.iinc 2 1, 3) := by decide +kernel
theorem dX5_copyFrom_34 : decode cX5_copyFrom 34 = .ok (.goto (-16), 3) := by decide +kernel
theorem dX5_copyFrom_37 : decode cX5_copyFrom 37 = .ok (.return_, 1) := by decide +kernel
theorem dX5_copyOrder_0 : decode cX5_copyOrder 0 = .ok (.aload_n 0, 1) := by decide +kernel
theorem dX5_copyOrder_1 : decode cX5_copyOrder 1 = .ok (.getfield 9, 3) := by decide +kernel
theorem dX5_copyOrder_4 : decode cX5_copyOrder 4 = .ok (.iload_n 3, 1) := by decide +kernel
theorem dX5_copyOrder_5 : decode cX5_copyOrder 5 = .ok (.aload_n 1, 1) := by decide +kernel
theorem dX5_copyOrder_6 : decode cX5_copyOrder 6 = .ok (.getfield 9, 3) := by decide +kernel
theorem dX5_copyOrder_9 : decode cX5_copyOrder 9 = .ok (.iload_n 2, 1) := by decide +kernel
theorem dX5_copyOrder_10 : decode cX5_copyOrder 10 = .ok (.iaload, 1) := by decide +kernel
theorem dX5_copyOrder_11 : decode cX5_copyOrder 11 = .ok (.iastore, 1) := by decide +kernel
theorem dX5_copyOrder_12 : decode cX5_copyOrder 12 = .ok (.aload_n 0, 1) := by decide +kernel
theorem dX5_copyOrder_13 : decode cX5_copyOrder 13 = .ok (.getfield 15, 3) := by decide +kernel
theorem dX5_copyOrder_16 : decode cX5_copyOrder 16 = .ok (.iload_n 3, 1) := by decide +kernel
theorem dX5_copyOrder_17 : decode cX5_copyOrder 17 = .ok (.aload_n 1, 1) := by decide +kernel
theorem dX5_copyOrder_18 : decode cX5_copyOrder 18 = .ok (.getfield 15, 3) := by decide +kernel
theorem dX5_copyOrder_21 : decode cX5_copyOrder 21 = .ok (.iload_n 2, 1) := by decide +kernel
theorem dX5_copyOrder_22 : decode cX5_copyOrder 22 = .ok (.iaload, 1) := by decide +kernel
theorem dX5_copyOrder_23 : decode cX5_copyOrder 23 = .ok (.iastore, 1) := by decide +kernel
theorem dX5_copyOrder_24 : decode cX5_copyOrder 24 = .ok (.aload_n 0, 1) := by decide +kernel
theorem dX5_copyOrder_25 : decode cX5_copyOrder 25 = .ok (.getfield 18, 3) := by decide +kernel
theorem dX5_copyOrder_28 : decode cX5_copyOrder 28 = .ok (.iload_n 3, 1) := by decide +kernel
theorem dX5_copyOrder_29 : decode cX5_copyOrder 29 = .ok (.aload_n 1, 1) := by decide +kernel
theorem dX5_copyOrder_30 : decode cX5_copyOrder 30 = .ok (.getfield 18, 3) := by decide +kernel
theorem dX5_copyOrder_33 : decode cX5_copyOrder 33 = .ok (.iload_n 2, 1) := by decide +kernel
theorem dX5_copyOrder_34 : decode cX5_copyOrder 34 = .ok (.iaload, 1) := by decide +kernel
theorem dX5_copyOrder_35 : decode cX5_copyOrder 35 = .ok (.iastore, 1) := by decide +kernel
theorem dX5_copyOrder_36 : decode cX5_copyOrder 36 = .ok (.aload_n 0, 1) := by decide +kernel
theorem dX5_copyOrder_37 : decode cX5_copyOrder 37 = .ok (.getfield 21, 3) := by decide +kernel
theorem dX5_copyOrder_40 : decode cX5_copyOrder 40 = .ok (.iload_n 3, 1) := by decide +kernel
theorem dX5_copyOrder_41 : decode cX5_copyOrder 41 = .ok (.aload_n 1, 1) := by decide +kernel
theorem dX5_copyOrder_42 : decode cX5_copyOrder 42 = .ok (.getfield 21, 3) := by decide +kernel
theorem dX5_copyOrder_45 : decode cX5_copyOrder 45 = .ok (.iload_n 2, 1) := by decide +kernel
theorem dX5_copyOrder_46 : decode cX5_copyOrder 46 = .ok (.iaload, 1) := by decide +kernel
theorem dX5_copyOrder_47 : decode cX5_copyOrder 47 = .ok (.iastore, 1) := by decide +kernel
theorem dX5_copyOrder_48 : decode cX5_copyOrder 48 = .ok (.aload_n 0, 1) := by decide +kernel
theorem dX5_copyOrder_49 : decode cX5_copyOrder 49 = .ok (.getfield 24, 3) := by decide +kernel
theorem dX5_copyOrder_52 : decode cX5_copyOrder 52 = .ok (.iload_n 3, 1) := by decide +kernel
theorem dX5_copyOrder_53 : decode cX5_copyOrder 53 = .ok (.aload_n 1, 1) := by decide +kernel
theorem dX5_copyOrder_54 : decode cX5_copyOrder 54 = .ok (.getfield 24, 3) := by decide +kernel
theorem dX5_copyOrder_57 : decode cX5_copyOrder 57 = .ok (.iload_n 2, 1) := by decide +kernel
theorem dX5_copyOrder_58 : decode cX5_copyOrder 58 = .ok (.iaload, 1) := by decide +kernel
theorem dX5_copyOrder_59 : decode cX5_copyOrder 59 = .ok (.iastore, 1) := by decide +kernel
theorem dX5_copyOrder_60 : decode cX5_copyOrder 60 = .ok (.return_, 1) := by decide +kernel
theorem dX5_add_0 : decode cX5_add 0 = .ok (.aload_n 0, 1) := by decide +kernel
theorem dX5_add_1 : decode cX5_add 1 = .ok (.getfield 27, 3) := by decide +kernel
theorem dX5_add_4 : decode cX5_add 4 = .ok (.bipush 10, 2) := by decide +kernel
theorem dX5_add_6 : decode cX5_add 6 = .ok (.if_icmp .lt 5, 3) := by decide +kernel
theorem dX5_add_9 : decode cX5_add 9 = .ok (.iconst (-1), 1) := by decide +kernel
theorem dX5_add_10 : decode cX5_add 10 = .ok (.ireturn, 1) := by decide +kernel
theorem dX5_add_11 : decode cX5_add 11 = .ok (.aload_n 0, 1) := by decide +kernel
theorem dX5_add_12 : decode cX5_add 12 = .ok (.getfield 27, 3) := by decide +kernel
theorem dX5_add_15 : decode cX5_add 15 = .ok (.istore 5, 2) := by decide +kernel
theorem dX5_add_17 : decode cX5_add 17 = .ok (.iload 5, 2) := by decide +kernel
theorem dX5_add_19 : decode cX5_add 19 = .ok (.ifCond .le 34, 3) := by decide +kernel
theorem dX5_add_22 : decode cX5_add 22 = .ok (.aload_n 0, 1) := by decide +kernel
theorem dX5_add_23 : decode cX5_add 23 = .ok (.getfield 24, 3) := by decide +kernel
theorem dX5_add_26 : decode cX5_add 26 = .ok (.iload 5, 2) := by decide +kernel
theorem dX5_add_28 : decode cX5_add 28 = .ok (.iconst 1, 1) := by decide +kernel
theorem dX5_add_29 : decode cX5_add 29 = .ok (.isub, 1) := by decide +kernel
theorem dX5_add_30 : decode cX5_add 30 = .ok (.iaload, 1) := by decide +kernel
theorem dX5_add_31 : decode cX5_add 31 = .ok (.iload 4, 2) := by decide +kernel
theorem dX5_add_33 : decode cX5_add 33 = .ok (.if_icmp .ge 20, 3) := by decide +kernel
theorem dX5_add_36 : decode cX5_add 36 = .ok (.aload_n 0, 1) := by decide +kernel
theorem dX5_add_37 : decode cX5_add 37 = .ok (.aload_n 0, 1) := by decide +kernel
theorem dX5_add_38 : decode cX5_add 38 = .ok (.iload 5, 2) := by decide +kernel
theorem dX5_add_40 : decode cX5_add 40 = .ok (.iconst 1, 1) := by decide +kernel
theorem dX5_add_41 : decode cX5_add 41 = .ok (.isub, 1) := by decide +kernel
theorem dX5_add_42 : decode cX5_add 42 = .ok (.iload 5, 2) := by decide +kernel
theorem dX5_add_44 : decode cX5_add 44 = .ok (.invokevirtual 34, 3) := by decide +kernel
theorem dX5_add_47 : decode cX5_add 47 = .ok (.iinc 5 (-1), 3) := by decide +kernel
theorem dX5_add_50 : decode cX5_add 50 = .ok (.goto (-33), 3) := by decide +kernel
theorem dX5_add_53 : decode cX5_add 53 = .ok (.aload_n 0, 1) := by decide +kernel
theorem dX5_add_54 : decode cX5_add 54 = .ok (.getfield 9, 3) := by decide +kernel
theorem dX5_add_57 : decode cX5_add 57 = .ok (.iload 5, 2) := by decide +kernel
theorem dX5_add_59 : decode cX5_add 59 = .ok (.aload_n 0, 1) := by decide +kernel
theorem dX5_add_60 : decode cX5_add 60 = .ok (.getfield 31, 3) := by decide +kernel
theorem dX5_add_63 : decode cX5_add 63 = .ok (.iastore, 1) := by decide +kernel
theorem dX5_add_64 : decode cX5_add 64 = .ok (.aload_n 0, 1) := by decide +kernel
theorem dX5_add_65 : decode cX5_add 65 = .ok (.getfield 15, 3) := by decide +kernel
theorem dX5_add_68 : decode cX5_add 68 = .ok (.iload 5, 2) := by decide +kernel
theorem dX5_add_70 : decode cX5_add 70 = .ok (.iload_n 1, 1) := by decide +kernel
theorem dX5_add_71 : decode cX5_add 71 = .ok (.iastore, 1) := by decide +kernel
theorem dX5_add_72 : decode cX5_add 72 = .ok (.aload_n 0, 1) := by decide +kernel
theorem dX5_add_73 : decode cX5_add 73 = .ok (.getfield 18, 3) := by decide +kernel
theorem dX5_add_76 : decode cX5_add 76 = .ok (.iload 5, 2) := by decide +kernel
theorem dX5_add_78 : decode cX5_add 78 = .ok (.iload_n 2, 1) := by decide +kernel
theorem dX5_add_79 : decode cX5_add 79 = .ok (.iastore, 1) := by decide +kernel
theorem dX5_add_80 : decode cX5_add 80 = .ok (.aload_n 0, 1) := by decide +kernel
theorem dX5_add_81 : decode cX5_add 81 = .ok (.getfield 21, 3) := by decide +kernel
theorem dX5_add_84 : decode cX5_add 84 = .ok (.iload 5, 2) := by decide +kernel
theorem dX5_add_86 : decode cX5_add 86 = .ok (.iload_n 3, 1) := by decide +kernel
theorem dX5_add_87 : decode cX5_add 87 = .ok (.iastore, 1) := by decide +kernel
theorem dX5_add_88 : decode cX5_add 88 = .ok (.aload_n 0, 1) := by decide +kernel
theorem dX5_add_89 : decode cX5_add 89 = .ok (.getfield 24, 3) := by decide +kernel
theorem dX5_add_92 : decode cX5_add 92 = .ok (.iload 5, 2) := by decide +kernel
theorem dX5_add_94 : decode cX5_add 94 = .ok (.iload 4, 2) := by decide +kernel
theorem dX5_add_96 : decode cX5_add 96 = .ok (.iastore, 1) := by decide +kernel
theorem dX5_add_97 : decode cX5_add 97 = .ok (.aload_n 0, 1) := by decide +kernel
theorem dX5_add_98 : decode cX5_add 98 = .ok (.dup, 1) := by decide +kernel
theorem dX5_add_99 : decode cX5_add 99 = .ok (.getfield 27, 3) := by decide +kernel
theorem dX5_add_102 : decode cX5_add 102 = .ok (.iconst 1, 1) := by decide +kernel
theorem dX5_add_103 : decode cX5_add 103 = .ok (.iadd, 1) := by decide +kernel
theorem dX5_add_104 : decode cX5_add 104 = .ok (.putfield 27, 3) := by decide +kernel
theorem dX5_add_107 : decode cX5_add 107 = .ok (.aload_n 0, 1) := by decide +kernel
theorem dX5_add_108 : decode cX5_add 108 = .ok (.dup, 1) := by decide +kernel
theorem dX5_add_109 : decode cX5_add 109 = .ok (.getfield 31, 3) := by decide +kernel
theorem dX5_add_112 : decode cX5_add 112 = .ok (.iconst 1, 1) := by decide +kernel
theorem dX5_add_113 : decode cX5_add 113 = .ok (.iadd, 1) := by decide +kernel
theorem dX5_add_114 : decode cX5_add 114 = .ok (.putfield 31, 3) := by decide +kernel
theorem dX5_add_117 : decode cX5_add 117 = .ok (.aload_n 0, 1) := by decide +kernel
theorem dX5_add_118 : decode cX5_add 118 = .ok (.getfield 9, 3) := by decide +kernel
theorem dX5_add_121 : decode cX5_add 121 = .ok (.iload 5, 2) := by decide +kernel
theorem dX5_add_123 : decode cX5_add 123 = .ok (.iaload, 1) := by decide +kernel
theorem dX5_add_124 : decode cX5_add 124 = .ok (.ireturn, 1) := by decide +kernel
theorem dX5_remove_0 : decode cX5_remove 0 = .ok (.iload_n 1, 1) := by decide +kernel
theorem dX5_remove_1 : decode cX5_remove 1 = .ok (.ifCond .lt 11, 3) := by decide +kernel
theorem dX5_remove_4 : decode cX5_remove 4 = .ok (.iload_n 1, 1) := by decide +kernel
theorem dX5_remove_5 : decode cX5_remove 5 = .ok (.aload_n 0, 1) := by decide +kernel
theorem dX5_remove_6 : decode cX5_remove 6 = .ok (.getfield 27, 3) := by decide +kernel
theorem dX5_remove_9 : decode cX5_remove 9 = .ok (.if_icmp .lt 4, 3) := by decide +kernel
theorem dX5_remove_12 : decode cX5_remove 12 = .ok (.return_, 1) := by decide +kernel
theorem dX5_remove_13 : decode cX5_remove 13 = .ok (.iload_n 1, 1) := by decide +kernel
theorem dX5_remove_14 : decode cX5_remove 14 = .ok (.istore_n 2, 1) := by decide +kernel
theorem dX5_remove_15 : decode cX5_remove 15 = .ok (.iload_n 2, 1) := by decide +kernel
theorem dX5_remove_16 : decode cX5_remove 16 = .ok (.aload_n 0, 1) := by decide +kernel
theorem dX5_remove_17 : decode cX5_remove 17 = .ok (.getfield 27, 3) := by decide +kernel
theorem dX5_remove_20 : decode cX5_remove 20 = .ok (.iconst 1, 1) := by decide +kernel
theorem dX5_remove_21 : decode cX5_remove 21 = .ok (.isub, 1) := by decide +kernel
theorem dX5_remove_22 : decode cX5_remove 22 = .ok (.if_icmp .ge 18, 3) := by decide +kernel
theorem dX5_remove_25 : decode cX5_remove 25 = .ok (.aload_n 0, 1) := by decide +kernel
theorem dX5_remove_26 : decode cX5_remove 26 = .ok (.aload_n 0, 1) := by decide +kernel
theorem dX5_remove_27 : decode cX5_remove 27 = .ok (.iload_n 2, 1) := by decide +kernel
theorem dX5_remove_28 : decode cX5_remove 28 = .ok (.iconst 1, 1) := by decide +kernel
theorem dX5_remove_29 : decode cX5_remove 29 = .ok (.iadd, 1) := by decide +kernel
theorem dX5_remove_30 : decode cX5_remove 30 = .ok (.iload_n 2, 1) := by decide +kernel
theorem dX5_remove_31 : decode cX5_remove 31 = .ok (.invokevirtual 34, 3) := by decide +kernel
theorem dX5_remove_34 : decode cX5_remove 34 = .ok (.iinc 2 1, 3) := by decide +kernel
theorem dX5_remove_37 : decode cX5_remove 37 = .ok (.goto (-22), 3) := by decide +kernel
theorem dX5_remove_40 : decode cX5_remove 40 = .ok (.aload_n 0, 1) := by decide +kernel
theorem dX5_remove_41 : decode cX5_remove 41 = .ok (.dup, 1) := by decide +kernel
theorem dX5_remove_42 : decode cX5_remove 42 = .ok (.getfield 27, 3) := by decide +kernel
theorem dX5_remove_45 : decode cX5_remove 45 = .ok (.iconst 1, 1) := by decide +kernel
theorem dX5_remove_46 : decode cX5_remove 46 = .ok (.isub, 1) := by decide +kernel
theorem dX5_remove_47 : decode cX5_remove 47 = .ok (.putfield 27, 3) := by decide +kernel
theorem dX5_remove_50 : decode cX5_remove 50 = .ok (.return_, 1) := by decide +kernel
theorem dX5_find_0 : decode cX5_find 0 = .ok (.iconst 0, 1) := by decide +kernel
theorem dX5_find_1 : decode cX5_find 1 = .ok (.istore_n 2, 1) := by decide +kernel
theorem dX5_find_2 : decode cX5_find 2 = .ok (.iload_n 2, 1) := by decide +kernel
theorem dX5_find_3 : decode cX5_find 3 = .ok (.aload_n 0, 1) := by decide +kernel
theorem dX5_find_4 : decode cX5_find 4 = .ok (.getfield 27, 3) := by decide +kernel
theorem dX5_find_7 : decode cX5_find 7 = .ok (.if_icmp .ge 21, 3) := by decide +kernel
theorem dX5_find_10 : decode cX5_find 10 = .ok (.aload_n 0, 1) := by decide +kernel
theorem dX5_find_11 : decode cX5_find 11 = .ok (.getfield 9, 3) := by decide +kernel
theorem dX5_find_14 : decode cX5_find 14 = .ok (.iload_n 2, 1) := by decide +kernel
theorem dX5_find_15 : decode cX5_find 15 = .ok (.iaload, 1) := by decide +kernel
theorem dX5_find_16 : decode cX5_find 16 = .ok (.iload_n 1, 1) := by decide +kernel
theorem dX5_find_17 : decode cX5_find 17 = .ok (.if_icmp .ne 5, 3) := by decide +kernel
theorem dX5_find_20 : decode cX5_find 20 = .ok (.iload_n 2, 1) := by decide +kernel
theorem dX5_find_21 : decode cX5_find 21 = .ok (.ireturn, 1) := by decide +kernel
theorem dX5_find_22 : decode cX5_find 22 = .ok (.iinc 2 1, 3) := by decide +kernel
theorem dX5_find_25 : decode cX5_find 25 = .ok (.goto (-23), 3) := by decide +kernel
theorem dX5_find_28 : decode cX5_find 28 = .ok (.iconst (-1), 1) := by decide +kernel
theorem dX5_find_29 : decode cX5_find 29 = .ok (.ireturn, 1) := by decide +kernel
theorem dX5_numberAt_0 : decode cX5_numberAt 0 = .ok (.iload_n 1, 1) := by decide +kernel
theorem dX5_numberAt_1 : decode cX5_numberAt 1 = .ok (.ifCond .lt 20, 3) := by decide +kernel
theorem dX5_numberAt_4 : decode cX5_numberAt 4 = .ok (.iload_n 1, 1) := by decide +kernel
theorem dX5_numberAt_5 : decode cX5_numberAt 5 = .ok (.aload_n 0, 1) := by decide +kernel
theorem dX5_numberAt_6 : decode cX5_numberAt 6 = .ok (.getfield 27, 3) := by decide +kernel
theorem dX5_numberAt_9 : decode cX5_numberAt 9 = .ok (.if_icmp .ge 12, 3) := by decide +kernel
theorem dX5_numberAt_12 : decode cX5_numberAt 12 = .ok (.aload_n 0, 1) := by decide +kernel
theorem dX5_numberAt_13 : decode cX5_numberAt 13 = .ok (.getfield 9, 3) := by decide +kernel
theorem dX5_numberAt_16 : decode cX5_numberAt 16 = .ok (.iload_n 1, 1) := by decide +kernel
theorem dX5_numberAt_17 : decode cX5_numberAt 17 = .ok (.iaload, 1) := by decide +kernel
theorem dX5_numberAt_18 : decode cX5_numberAt 18 = .ok (.goto 4, 3) := by decide +kernel
theorem dX5_numberAt_21 : decode cX5_numberAt 21 = .ok (.iconst (-1), 1) := by decide +kernel
theorem dX5_numberAt_22 : decode cX5_numberAt 22 = .ok (.ireturn, 1) := by decide +kernel
theorem dX5_isConsistent_0 : decode cX5_isConsistent 0 = .ok (.iconst 0, 1) := by decide +kernel
theorem dX5_isConsistent_1 : decode cX5_isConsistent 1 = .ok (.istore_n 1, 1) := by decide +kernel
theorem dX5_isConsistent_2 : decode cX5_isConsistent 2 = .ok (.iload_n 1, 1) := by decide +kernel
theorem dX5_isConsistent_3 : decode cX5_isConsistent 3 = .ok (.aload_n 0, 1) := by decide +kernel
theorem dX5_isConsistent_4 : decode cX5_isConsistent 4 = .ok (.getfield 27, 3) := by decide +kernel
theorem dX5_isConsistent_7 : decode cX5_isConsistent 7 = .ok (.if_icmp .ge 24, 3) := by decide +kernel
theorem dX5_isConsistent_10 : decode cX5_isConsistent 10 = .ok (.aload_n 0, 1) := by decide +kernel
theorem dX5_isConsistent_11 : decode cX5_isConsistent 11 = .ok (.aload_n 0, 1) := by decide +kernel
theorem dX5_isConsistent_12 : decode cX5_isConsistent 12 = .ok (.iload_n 1, 1) := by decide +kernel
theorem dX5_isConsistent_13 : decode cX5_isConsistent 13 = .ok (.invokevirtual 38, 3) := by decide +kernel
theorem dX5_isConsistent_16 : decode cX5_isConsistent 16 = .ok (.invokevirtual 42, 3) := by decide +kernel
theorem dX5_isConsistent_19 : decode cX5_isConsistent 19 = .ok (.iload_n 1, 1) := by decide +kernel
theorem dX5_isConsistent_20 : decode cX5_isConsistent 20 = .ok (.if_icmp .eq 5, 3) := by decide +kernel
theorem dX5_isConsistent_23 : decode cX5_isConsistent 23 = .ok (.iconst 0, 1) := by decide +kernel
theorem dX5_isConsistent_24 : decode cX5_isConsistent 24 = .ok (.ireturn, 1) := by decide +kernel
theorem dX5_isConsistent_25 : decode cX5_isConsistent 25 = .ok (.iinc 1 1, 3) := by decide +kernel
theorem dX5_isConsistent_28 : decode cX5_isConsistent 28 = .ok (.goto (-26), 3) := by decide +kernel
theorem dX5_isConsistent_31 : decode cX5_isConsistent 31 = .ok (.iconst 1, 1) := by decide +kernel
theorem dX5_isConsistent_32 : decode cX5_isConsistent 32 = .ok (.ireturn, 1) := by decide +kernel
theorem dX5_describe_0 : decode cX5_describe 0 = .ok (.aload_n 2, 1) := by decide +kernel
theorem dX5_describe_1 : decode cX5_describe 1 = .ok (.bipush 35, 2) := by decide +kernel
theorem dX5_describe_3 : decode cX5_describe 3 = .ok (.invokevirtual 45, 3) := by decide +kernel
theorem dX5_describe_6 : decode cX5_describe 6 = .ok (.aload_n 0, 1) := by decide +kernel
theorem dX5_describe_7 : decode cX5_describe 7 = .ok (.getfield 9, 3) := by decide +kernel
theorem dX5_describe_10 : decode cX5_describe 10 = .ok (.iload_n 1, 1) := by decide +kernel
theorem dX5_describe_11 : decode cX5_describe 11 = .ok (.iaload, 1) := by decide +kernel
theorem dX5_describe_12 : decode cX5_describe 12 = .ok (.invokevirtual 51, 3) := by decide +kernel
theorem dX5_describe_15 : decode cX5_describe 15 = .ok (.pop, 1) := by decide +kernel
theorem dX5_describe_16 : decode cX5_describe 16 = .ok (.aload_n 2, 1) := by decide +kernel
theorem dX5_describe_17 : decode cX5_describe 17 = .ok (.ldc 54, 2) := by decide +kernel
theorem dX5_describe_19 : decode cX5_describe 19 = .ok (.invokevirtual 56, 3) := by decide +kernel
theorem dX5_describe_22 : decode cX5_describe 22 = .ok (.aload_n 0, 1) := by decide +kernel
theorem dX5_describe_23 : decode cX5_describe 23 = .ok (.getfield 15, 3) := by decide +kernel
theorem dX5_describe_26 : decode cX5_describe 26 = .ok (.iload_n 1, 1) := by decide +kernel
theorem dX5_describe_27 : decode cX5_describe 27 = .ok (.iaload, 1) := by decide +kernel
theorem dX5_describe_28 : decode cX5_describe 28 = .ok (.invokevirtual 51, 3) := by decide +kernel
theorem dX5_describe_31 : decode cX5_describe 31 = .ok (.pop, 1) := by decide +kernel
theorem dX5_describe_32 : decode cX5_describe 32 = .ok (.aload_n 2, 1) := by decide +kernel
theorem dX5_describe_33 : decode cX5_describe 33 = .ok (.bipush 32, 2) := by decide +kernel
theorem dX5_describe_35 : decode cX5_describe 35 = .ok (.invokevirtual 45, 3) := by decide +kernel
theorem dX5_describe_38 : decode cX5_describe 38 = .ok (.aload_n 0, 1) := by decide +kernel
theorem dX5_describe_39 : decode cX5_describe 39 = .ok (.getfield 18, 3) := by decide +kernel
theorem dX5_describe_42 : decode cX5_describe 42 = .ok (.iload_n 1, 1) := by decide +kernel
theorem dX5_describe_43 : decode cX5_describe 43 = .ok (.iaload, 1) := by decide +kernel
theorem dX5_describe_44 : decode cX5_describe 44 = .ok (.invokevirtual 51, 3) := by decide +kernel
theorem dX5_describe_47 : decode cX5_describe 47 = .ok (.pop, 1) := by decide +kernel
theorem dX5_describe_48 : decode cX5_describe 48 = .ok (.aload_n 2, 1) := by decide +kernel
theorem dX5_describe_49 : decode cX5_describe 49 = .ok (.bipush 120, 2) := by decide +kernel
theorem dX5_describe_51 : decode cX5_describe 51 = .ok (.invokevirtual 45, 3) := by decide +kernel
theorem dX5_describe_54 : decode cX5_describe 54 = .ok (.aload_n 0, 1) := by decide +kernel
theorem dX5_describe_55 : decode cX5_describe 55 = .ok (.getfield 21, 3) := by decide +kernel
theorem dX5_describe_58 : decode cX5_describe 58 = .ok (.iload_n 1, 1) := by decide +kernel
theorem dX5_describe_59 : decode cX5_describe 59 = .ok (.iaload, 1) := by decide +kernel
theorem dX5_describe_60 : decode cX5_describe 60 = .ok (.invokevirtual 51, 3) := by decide +kernel
theorem dX5_describe_63 : decode cX5_describe 63 = .ok (.pop, 1) := by decide +kernel
theorem dX5_describe_64 : decode cX5_describe 64 = .ok (.aload_n 2, 1) := by decide +kernel
theorem dX5_describe_65 : decode cX5_describe 65 = .ok (.ldc 59, 2) := by decide +kernel
theorem dX5_describe_67 : decode cX5_describe 67 = .ok (.invokevirtual 56, 3) := by decide +kernel
theorem dX5_describe_70 : decode cX5_describe 70 = .ok (.aload_n 0, 1) := by decide +kernel
theorem dX5_describe_71 : decode cX5_describe 71 = .ok (.getfield 24, 3) := by decide +kernel
theorem dX5_describe_74 : decode cX5_describe 74 = .ok (.iload_n 1, 1) := by decide +kernel
theorem dX5_describe_75 : decode cX5_describe 75 = .ok (.iaload, 1) := by decide +kernel
theorem dX5_describe_76 : decode cX5_describe 76 = .ok (.invokevirtual 51, 3) := by decide +kernel
theorem dX5_describe_79 : decode cX5_describe 79 = .ok (.pop, 1) := by decide +kernel
theorem dX5_describe_80 : decode cX5_describe 80 = .ok (.return_, 1) := by decide +kernel
theorem dX8_init_0 : decode cX8_init 0 = .ok (.aload_n 0, 1) := by decide +kernel
theorem dX8_init_1 : decode cX8_init 1 = .ok (.invokespecial 3, 3) := by decide +kernel
theorem dX8_init_4 : decode cX8_init 4 = .ok (.aload_n 0, 1) := by decide +kernel
theorem dX8_init_5 : decode cX8_init 5 = .ok (.new 9, 3) := by decide +kernel
theorem dX8_init_8 : decode cX8_init 8 = .ok (.dup, 1) := by decide +kernel
theorem dX8_init_9 : decode cX8_init 9 = .ok (.invokespecial 11, 3) := by decide +kernel
theorem dX8_init_12 : decode cX8_init 12 = .ok (.putfield 12, 3) := by decide +kernel
theorem dX8_init_15 : decode cX8_init 15 = .ok (.aload_n 0, 1) := by decide +kernel
theorem dX8_init_16 : decode cX8_init 16 = .ok (.new 9, 3) := by decide +kernel
theorem dX8_init_19 : decode cX8_init 19 = .ok (.dup, 1) := by decide +kernel
theorem dX8_init_20 : decode cX8_init 20 = .ok (.invokespecial 11, 3) := by decide +kernel
theorem dX8_init_23 : decode cX8_init 23 = .ok (.putfield 16, 3) := by decide +kernel
theorem dX8_init_26 : decode cX8_init 26 = .ok (.aload_n 0, 1) := by decide +kernel
theorem dX8_init_27 : decode cX8_init 27 = .ok (.new 9, 3) := by decide +kernel
theorem dX8_init_30 : decode cX8_init 30 = .ok (.dup, 1) := by decide +kernel
theorem dX8_init_31 : decode cX8_init 31 = .ok (.invokespecial 11, 3) := by decide +kernel
theorem dX8_init_34 : decode cX8_init 34 = .ok (.putfield 19, 3) := by decide +kernel
theorem dX8_init_37 : decode cX8_init 37 = .ok (.aload_n 0, 1) := by decide +kernel
theorem dX8_init_38 : decode cX8_init 38 = .ok (.bipush 8, 2) := by decide +kernel
theorem dX8_init_40 : decode cX8_init 40 = .ok (.anewarray 9, 3) := by decide +kernel
theorem dX8_init_43 : decode cX8_init 43 = .ok (.putfield 22, 3) := by decide +kernel
theorem dX8_init_46 : decode cX8_init 46 = .ok (.aload_n 0, 1) := by decide +kernel
theorem dX8_init_47 : decode cX8_init 47 = .ok (.new 26, 3) := by decide +kernel
theorem dX8_init_50 : decode cX8_init 50 = .ok (.dup, 1) := by decide +kernel
theorem dX8_init_51 : decode cX8_init 51 = .ok (.invokespecial 28, 3) := by decide +kernel
theorem dX8_init_54 : decode cX8_init 54 = .ok (.putfield 29, 3) := by decide +kernel
theorem dX8_init_57 : decode cX8_init 57 = .ok (.aload_n 0, 1) := by decide +kernel
theorem dX8_init_58 : decode cX8_init 58 = .ok (.new 33, 3) := by decide +kernel
theorem dX8_init_61 : decode cX8_init 61 = .ok (.dup, 1) := by decide +kernel
theorem dX8_init_62 : decode cX8_init 62 = .ok (.invokespecial 35, 3) := by decide +kernel
theorem dX8_init_65 : decode cX8_init 65 = .ok (.putfield 36, 3) := by decide +kernel
theorem dX8_init_68 : decode cX8_init 68 = .ok (.aload_n 0, 1) := by decide +kernel
theorem dX8_init_69 : decode cX8_init 69 = .ok (.new 40, 3) := by decide +kernel
theorem dX8_init_72 : decode cX8_init 72 = .ok (.dup, 1) := by decide +kernel
theorem dX8_init_73 : decode cX8_init 73 = .ok (.invokespecial 42, 3) := by decide +kernel
theorem dX8_init_76 : decode cX8_init 76 = .ok (.putfield 43, 3) := by decide +kernel
theorem dX8_init_79 : decode cX8_init 79 = .ok (.aload_n 0, 1) := by decide +kernel
theorem dX8_init_80 : decode cX8_init 80 = .ok (.iconst 0, 1) := by decide +kernel
theorem dX8_init_81 : decode cX8_init 81 = .ok (.putfield 47, 3) := by decide +kernel
theorem dX8_init_84 : decode cX8_init 84 = .ok (.aload_n 0, 1) := by decide +kernel
theorem dX8_init_85 : decode cX8_init 85 = .ok (.iconst 0, 1) := by decide +kernel
theorem dX8_init_86 : decode cX8_init 86 = .ok (.putfield 51, 3) := by decide +kernel
theorem dX8_init_89 : decode cX8_init 89 = .ok (.aload_n 0, 1) := by decide +kernel
theorem dX8_init_90 : decode cX8_init 90 = .ok (.iconst 0, 1) := by decide +kernel
theorem dX8_init_91 : decode cX8_init 91 = .ok (.putfield 55, 3) := by decide +kernel
theorem dX8_init_94 : decode cX8_init 94 = .ok (.aload_n 0, 1) := by decide +kernel
theorem dX8_init_95 : decode cX8_init 95 = .ok (.iconst (-1), 1) := by decide +kernel
theorem dX8_init_96 : decode cX8_init 96 = .ok (.putfield 58, 3) := by decide +kernel
theorem dX8_init_99 : decode cX8_init 99 = .ok (.aload_n 0, 1) := by decide +kernel
theorem dX8_init_100 : decode cX8_init 100 = .ok (.iconst (-1), 1) := by decide +kernel
theorem dX8_init_101 : decode cX8_init 101 = .ok (.putfield 61, 3) := by decide +kernel
theorem dX8_init_104 : decode cX8_init 104 = .ok (.iconst 0, 1) := by decide +kernel
theorem dX8_init_105 : decode cX8_init 105 = .ok (.istore_n 1, 1) := by decide +kernel
theorem dX8_init_106 : decode cX8_init 106 = .ok (.iload_n 1, 1) := by decide +kernel
theorem dX8_init_107 : decode cX8_init 107 = .ok (.bipush 8, 2) := by decide +kernel
theorem dX8_init_109 : decode cX8_init 109 = .ok (.if_icmp .ge 22, 3) := by decide +kernel
theorem dX8_init_112 : decode cX8_init 112 = .ok (.aload_n 0, 1) := by decide +kernel
theorem dX8_init_113 : decode cX8_init 113 = .ok (.getfield 22, 3) := by decide +kernel
theorem dX8_init_116 : decode cX8_init 116 = .ok (.iload_n 1, 1) := by decide +kernel
theorem dX8_init_117 : decode cX8_init 117 = .ok (.new 9, 3) := by decide +kernel
theorem dX8_init_120 : decode cX8_init 120 = .ok (.dup, 1) := by decide +kernel
theorem dX8_init_121 : decode cX8_init 121 = .ok (.invokespecial 11, 3) := by decide +kernel
theorem dX8_init_124 : decode cX8_init 124 = .ok (.aastore, 1) := by decide +kernel
theorem dX8_init_125 : decode cX8_init 125 = .ok (.iinc 1 1, 3) := by decide +kernel
theorem dX8_init_128 : decode cX8_init 128 = .ok (.goto (-22), 3) := by decide +kernel
theorem dX8_init_131 : decode cX8_init 131 = .ok (.return_, 1) := by decide +kernel
theorem dX8_addKettle_0 : decode cX8_addKettle 0 = .ok (.aload_n 0, 1) := by decide +kernel
theorem dX8_addKettle_1 : decode cX8_addKettle 1 = .ok (.getstatic 64, 3) := by decide +kernel
theorem dX8_addKettle_4 : decode cX8_addKettle 4 = .ok (.iload_n 1, 1) := by decide +kernel
theorem dX8_addKettle_5 : decode cX8_addKettle 5 = .ok (.iconst 0, 1) := by decide +kernel
theorem dX8_addKettle_6 : decode cX8_addKettle 6 = .ok (.iconst 0, 1) := by decide +kernel
theorem dX8_addKettle_7 : decode cX8_addKettle 7 = .ok (.iconst 0, 1) := by decide +kernel
theorem dX8_addKettle_8 : decode cX8_addKettle 8 = .ok (.invokevirtual 70, 3) := by decide +kernel
theorem dX8_addKettle_11 : decode cX8_addKettle 11 = .ok (.ireturn, 1) := by decide +kernel
theorem dX8_fill_0 : decode cX8_fill 0 = .ok (.aload_n 0, 1) := by decide +kernel
theorem dX8_fill_1 : decode cX8_fill 1 = .ok (.getstatic 74, 3) := by decide +kernel
theorem dX8_fill_4 : decode cX8_fill 4 = .ok (.iload_n 1, 1) := by decide +kernel
theorem dX8_fill_5 : decode cX8_fill 5 = .ok (.iload_n 2, 1) := by decide +kernel
theorem dX8_fill_6 : decode cX8_fill 6 = .ok (.iconst 0, 1) := by decide +kernel
theorem dX8_fill_7 : decode cX8_fill 7 = .ok (.iconst 0, 1) := by decide +kernel
theorem dX8_fill_8 : decode cX8_fill 8 = .ok (.invokevirtual 70, 3) := by decide +kernel
theorem dX8_fill_11 : decode cX8_fill 11 = .ok (.invokestatic 77, 3) := by decide +kernel
theorem dX8_fill_14 : decode cX8_fill 14 = .ok (.freturn, 1) := by decide +kernel
theorem dX8_setBurner_0 : decode cX8_setBurner 0 = .ok (.aload_n 0, 1) := by decide +kernel
theorem dX8_setBurner_1 : decode cX8_setBurner 1 = .ok (.getstatic 81, 3) := by decide +kernel
theorem dX8_setBurner_4 : decode cX8_setBurner 4 = .ok (.iload_n 1, 1) := by decide +kernel
theorem dX8_setBurner_5 : decode cX8_setBurner 5 = .ok (.iload_n 2, 1) := by decide +kernel
theorem dX8_setBurner_6 : decode cX8_setBurner 6 = .ok (.iconst 0, 1) := by decide +kernel
theorem dX8_setBurner_7 : decode cX8_setBurner 7 = .ok (.iconst 0, 1) := by decide +kernel
theorem dX8_setBurner_8 : decode cX8_setBurner 8 = .ok (.invokevirtual 70, 3) := by decide +kernel
theorem dX8_setBurner_11 : decode cX8_setBurner 11 = .ok (.ireturn, 1) := by decide +kernel
theorem dX8_order_0 : decode cX8_order 0 = .ok (.aload_n 0, 1) := by decide +kernel
theorem dX8_order_1 : decode cX8_order 1 = .ok (.getstatic 84, 3) := by decide +kernel
theorem dX8_order_4 : decode cX8_order 4 = .ok (.iload_n 1, 1) := by decide +kernel
theorem dX8_order_5 : decode cX8_order 5 = .ok (.iload_n 2, 1) := by decide +kernel
theorem dX8_order_6 : decode cX8_order 6 = .ok (.iload_n 3, 1) := by decide +kernel
theorem dX8_order_7 : decode cX8_order 7 = .ok (.iload 4, 2) := by decide +kernel
theorem dX8_order_9 : decode cX8_order 9 = .ok (.invokevirtual 70, 3) := by decide +kernel
theorem dX8_order_12 : decode cX8_order 12 = .ok (.ireturn, 1) := by decide +kernel
theorem dX8_cancel_0 : decode cX8_cancel 0 = .ok (.aload_n 0, 1) := by decide +kernel
theorem dX8_cancel_1 : decode cX8_cancel 1 = .ok (.getstatic 87, 3) := by decide +kernel
theorem dX8_cancel_4 : decode cX8_cancel 4 = .ok (.iload_n 1, 1) := by decide +kernel
theorem dX8_cancel_5 : decode cX8_cancel 5 = .ok (.iconst 0, 1) := by decide +kernel
theorem dX8_cancel_6 : decode cX8_cancel 6 = .ok (.iconst 0, 1) := by decide +kernel
theorem dX8_cancel_7 : decode cX8_cancel 7 = .ok (.iconst 0, 1) := by decide +kernel
theorem dX8_cancel_8 : decode cX8_cancel 8 = .ok (.invokevirtual 70, 3) := by decide +kernel
theorem dX8_cancel_11 : decode cX8_cancel 11 = .ok (.ireturn, 1) := by decide +kernel
theorem dX8_serveNext_0 : decode cX8_serveNext 0 = .ok (.aload_n 0, 1) := by decide +kernel
theorem dX8_serveNext_1 : decode cX8_serveNext 1 = .ok (.getstatic 90, 3) := by decide +kernel
theorem dX8_serveNext_4 : decode cX8_serveNext 4 = .ok (.iconst 0, 1) := by decide +kernel
theorem dX8_serveNext_5 : decode cX8_serveNext 5 = .ok (.iconst 0, 1) := by decide +kernel
theorem dX8_serveNext_6 : decode cX8_serveNext 6 = .ok (.iconst 0, 1) := by decide +kernel
theorem dX8_serveNext_7 : decode cX8_serveNext 7 = .ok (.iconst 0, 1) := by decide +kernel
theorem dX8_serveNext_8 : decode cX8_serveNext 8 = .ok (.invokevirtual 70, 3) := by decide +kernel
theorem dX8_serveNext_11 : decode cX8_serveNext 11 = .ok (.ireturn, 1) := by decide +kernel
theorem dX8_wash_0 : decode cX8_wash 0 = .ok (.aload_n 0, 1) := by decide +kernel
theorem dX8_wash_1 : decode cX8_wash 1 = .ok (.getstatic 93, 3) := by decide +kernel
theorem dX8_wash_4 : decode cX8_wash 4 = .ok (.iload_n 1, 1) := by decide +kernel
theorem dX8_wash_5 : decode cX8_wash 5 = .ok (.iconst 0, 1) := by decide +kernel
theorem dX8_wash_6 : decode cX8_wash 6 = .ok (.iconst 0, 1) := by decide +kernel
theorem dX8_wash_7 : decode cX8_wash 7 = .ok (.iconst 0, 1) := by decide +kernel
theorem dX8_wash_8 : decode cX8_wash 8 = .ok (.invokevirtual 70, 3) := by decide +kernel
theorem dX8_wash_11 : decode cX8_wash 11 = .ok (.ireturn, 1) := by decide +kernel
theorem dX8_sellSteam_0 : decode cX8_sellSteam 0 = .ok (.aload_n 0, 1) := by decide +kernel
theorem dX8_sellSteam_1 : decode cX8_sellSteam 1 = .ok (.getstatic 96, 3) := by decide +kernel
theorem dX8_sellSteam_4 : decode cX8_sellSteam 4 = .ok (.iload_n 1, 1) := by decide +kernel
theorem dX8_sellSteam_5 : decode cX8_sellSteam 5 = .ok (.iconst 0, 1) := by decide +kernel
theorem dX8_sellSteam_6 : decode cX8_sellSteam 6 = .ok (.iconst 0, 1) := by decide +kernel
theorem dX8_sellSteam_7 : decode cX8_sellSteam 7 = .ok (.iconst 0, 1) := by decide +kernel
theorem dX8_sellSteam_8 : decode cX8_sellSteam 8 = .ok (.invokevirtual 70, 3) := by decide +kernel
theorem dX8_sellSteam_11 : decode cX8_sellSteam 11 = .ok (.invokestatic 99, 3) := by decide +kernel
theorem dX8_sellSteam_14 : decode cX8_sellSteam 14 = .ok (.freturn, 1) := by decide +kernel
theorem dX8_setCupPrice_0 : decode cX8_setCupPrice 0 = .ok (.aload_n 0, 1) := by decide +kernel
theorem dX8_setCupPrice_1 : decode cX8_setCupPrice 1 = .ok (.getstatic 102, 3) := by decide +kernel
theorem dX8_setCupPrice_4 : decode cX8_setCupPrice 4 = .ok (.iload_n 1, 1) := by decide +kernel
theorem dX8_setCupPrice_5 : decode cX8_setCupPrice 5 = .ok (.iconst 0, 1) := by decide +kernel
theorem dX8_setCupPrice_6 : decode cX8_setCupPrice 6 = .ok (.iconst 0, 1) := by decide +kernel
theorem dX8_setCupPrice_7 : decode cX8_setCupPrice 7 = .ok (.iconst 0, 1) := by decide +kernel
theorem dX8_setCupPrice_8 : decode cX8_setCupPrice 8 = .ok (.invokevirtual 70, 3) := by decide +kernel
theorem dX8_setCupPrice_11 : decode cX8_setCupPrice 11 = .ok (.invokestatic 99, 3) := by decide +kernel
theorem dX8_setCupPrice_14 : decode cX8_setCupPrice 14 = .ok (.freturn, 1) := by decide +kernel
theorem dX8_setSteamPrice_0 : decode cX8_setSteamPrice 0 = .ok (.aload_n 0, 1) := by decide +kernel
theorem dX8_setSteamPrice_1 : decode cX8_setSteamPrice 1 = .ok (.getstatic 105, 3) := by decide +kernel
theorem dX8_setSteamPrice_4 : decode cX8_setSteamPrice 4 = .ok (.iload_n 1, 1) := by decide +kernel
theorem dX8_setSteamPrice_5 : decode cX8_setSteamPrice 5 = .ok (.iconst 0, 1) := by decide +kernel
theorem dX8_setSteamPrice_6 : decode cX8_setSteamPrice 6 = .ok (.iconst 0, 1) := by decide +kernel
theorem dX8_setSteamPrice_7 : decode cX8_setSteamPrice 7 = .ok (.iconst 0, 1) := by decide +kernel
theorem dX8_setSteamPrice_8 : decode cX8_setSteamPrice 8 = .ok (.invokevirtual 70, 3) := by decide +kernel
theorem dX8_setSteamPrice_11 : decode cX8_setSteamPrice 11 = .ok (.i2f, 1) := by decide +kernel
theorem dX8_setSteamPrice_12 : decode cX8_setSteamPrice 12 = .ok (.freturn, 1) := by decide +kernel
theorem dX8_setAttendant_0 : decode cX8_setAttendant 0 = .ok (.aload_n 0, 1) := by decide +kernel
theorem dX8_setAttendant_1 : decode cX8_setAttendant 1 = .ok (.getstatic 108, 3) := by decide +kernel
theorem dX8_setAttendant_4 : decode cX8_setAttendant 4 = .ok (.iload_n 1, 1) := by decide +kernel
theorem dX8_setAttendant_5 : decode cX8_setAttendant 5 = .ok (.ifCond .eq 7, 3) := by decide +kernel
theorem dX8_setAttendant_8 : decode cX8_setAttendant 8 = .ok (.iconst 1, 1) := by decide +kernel
theorem dX8_setAttendant_9 : decode cX8_setAttendant 9 = .ok (.goto 4, 3) := by decide +kernel
theorem dX8_setAttendant_12 : decode cX8_setAttendant 12 = .ok (.iconst 0, 1) := by decide +kernel
theorem dX8_setAttendant_13 : decode cX8_setAttendant 13 = .ok (.iconst 0, 1) := by decide +kernel
theorem dX8_setAttendant_14 : decode cX8_setAttendant 14 = .ok (.iconst 0, 1) := by decide +kernel
theorem dX8_setAttendant_15 : decode cX8_setAttendant 15 = .ok (.iconst 0, 1) := by decide +kernel
theorem dX8_setAttendant_16 : decode cX8_setAttendant 16 = .ok (.invokevirtual 70, 3) := by decide +kernel
theorem dX8_setAttendant_19 : decode cX8_setAttendant 19 = .ok (.ifCond .eq 7, 3) := by decide +kernel
theorem dX8_setAttendant_22 : decode cX8_setAttendant 22 = .ok (.iconst 1, 1) := by decide +kernel
theorem dX8_setAttendant_23 : decode cX8_setAttendant 23 = .ok (.goto 4, 3) := by decide +kernel
theorem dX8_setAttendant_26 : decode cX8_setAttendant 26 = .ok (.iconst 0, 1) := by decide +kernel
theorem dX8_setAttendant_27 : decode cX8_setAttendant 27 = .ok (.ireturn, 1) := by decide +kernel
theorem dX8_pass_0 : decode cX8_pass 0 = .ok (.aload_n 0, 1) := by decide +kernel
theorem dX8_pass_1 : decode cX8_pass 1 = .ok (.getstatic 111, 3) := by decide +kernel
theorem dX8_pass_4 : decode cX8_pass 4 = .ok (.iload_n 1, 1) := by decide +kernel
theorem dX8_pass_5 : decode cX8_pass 5 = .ok (.iconst 0, 1) := by decide +kernel
theorem dX8_pass_6 : decode cX8_pass 6 = .ok (.iconst 0, 1) := by decide +kernel
theorem dX8_pass_7 : decode cX8_pass 7 = .ok (.iconst 0, 1) := by decide +kernel
theorem dX8_pass_8 : decode cX8_pass 8 = .ok (.invokevirtual 70, 3) := by decide +kernel
theorem dX8_pass_11 : decode cX8_pass 11 = .ok (.ireturn, 1) := by decide +kernel
theorem dX8_closeNight_0 : decode cX8_closeNight 0 = .ok (.aload_n 0, 1) := by decide +kernel
theorem dX8_closeNight_1 : decode cX8_closeNight 1 = .ok (.getstatic 114, 3) := by decide +kernel
theorem dX8_closeNight_4 : decode cX8_closeNight 4 = .ok (.iconst 0, 1) := by decide +kernel
theorem dX8_closeNight_5 : decode cX8_closeNight 5 = .ok (.iconst 0, 1) := by decide +kernel
theorem dX8_closeNight_6 : decode cX8_closeNight 6 = .ok (.iconst 0, 1) := by decide +kernel
theorem dX8_closeNight_7 : decode cX8_closeNight 7 = .ok (.iconst 0, 1) := by decide +kernel
theorem dX8_closeNight_8 : decode cX8_closeNight 8 = .ok (.invokevirtual 70, 3) := by decide +kernel
theorem dX8_closeNight_11 : decode cX8_closeNight 11 = .ok (.invokestatic 99, 3) := by decide +kernel
theorem dX8_closeNight_14 : decode cX8_closeNight 14 = .ok (.freturn, 1) := by decide +kernel
theorem dX8_kettleCount_0 : decode cX8_kettleCount 0 = .ok (.aload_n 0, 1) := by decide +kernel
theorem dX8_kettleCount_1 : decode cX8_kettleCount 1 = .ok (.getfield 12, 3) := by decide +kernel
theorem dX8_kettleCount_4 : decode cX8_kettleCount 4 = .ok (.getfield 117, 3) := by decide +kernel
theorem dX8_kettleCount_7 : decode cX8_kettleCount 7 = .ok (.getfield 120, 3) := by decide +kernel
theorem dX8_kettleCount_10 : decode cX8_kettleCount 10 = .ok (.ireturn, 1) := by decide +kernel
theorem dX8_capacity_0 : decode cX8_capacity 0 = .ok (.aload_n 0, 1) := by decide +kernel
theorem dX8_capacity_1 : decode cX8_capacity 1 = .ok (.iload_n 1, 1) := by decide +kernel
theorem dX8_capacity_2 : decode cX8_capacity 2 = .ok (.invokevirtual 123, 3) := by decide +kernel
theorem dX8_capacity_5 : decode cX8_capacity 5 = .ok (.aload_n 0, 1) := by decide +kernel
theorem dX8_capacity_6 : decode cX8_capacity 6 = .ok (.getfield 12, 3) := by decide +kernel
theorem dX8_capacity_9 : decode cX8_capacity 9 = .ok (.getfield 117, 3) := by decide +kernel
theorem dX8_capacity_12 : decode cX8_capacity 12 = .ok (.getfield 127, 3) := by decide +kernel
theorem dX8_capacity_15 : decode cX8_capacity 15 = .ok (.iload_n 1, 1) := by decide +kernel
theorem dX8_capacity_16 : decode cX8_capacity 16 = .ok (.iaload, 1) := by decide +kernel
theorem dX8_capacity_17 : decode cX8_capacity 17 = .ok (.invokestatic 99, 3) := by decide +kernel
theorem dX8_capacity_20 : decode cX8_capacity 20 = .ok (.freturn, 1) := by decide +kernel
theorem dX8_volume_0 : decode cX8_volume 0 = .ok (.aload_n 0, 1) := by decide +kernel
theorem dX8_volume_1 : decode cX8_volume 1 = .ok (.iload_n 1, 1) := by decide +kernel
theorem dX8_volume_2 : decode cX8_volume 2 = .ok (.invokevirtual 123, 3) := by decide +kernel
theorem dX8_volume_5 : decode cX8_volume 5 = .ok (.aload_n 0, 1) := by decide +kernel
theorem dX8_volume_6 : decode cX8_volume 6 = .ok (.getfield 12, 3) := by decide +kernel
theorem dX8_volume_9 : decode cX8_volume 9 = .ok (.getfield 117, 3) := by decide +kernel
theorem dX8_volume_12 : decode cX8_volume 12 = .ok (.getfield 131, 3) := by decide +kernel
theorem dX8_volume_15 : decode cX8_volume 15 = .ok (.iload_n 1, 1) := by decide +kernel
theorem dX8_volume_16 : decode cX8_volume 16 = .ok (.iaload, 1) := by decide +kernel
theorem dX8_volume_17 : decode cX8_volume 17 = .ok (.invokestatic 99, 3) := by decide +kernel
theorem dX8_volume_20 : decode cX8_volume 20 = .ok (.freturn, 1) := by decide +kernel
theorem dX8_temperature_0 : decode cX8_temperature 0 = .ok (.aload_n 0, 1) := by decide +kernel
theorem dX8_temperature_1 : decode cX8_temperature 1 = .ok (.iload_n 1, 1) := by decide +kernel
theorem dX8_temperature_2 : decode cX8_temperature 2 = .ok (.invokevirtual 123, 3) := by decide +kernel
theorem dX8_temperature_5 : decode cX8_temperature 5 = .ok (.aload_n 0, 1) := by decide +kernel
theorem dX8_temperature_6 : decode cX8_temperature 6 = .ok (.getfield 12, 3) := by decide +kernel
theorem dX8_temperature_9 : decode cX8_temperature 9 = .ok (.getfield 117, 3) := by decide +kernel
theorem dX8_temperature_12 : decode cX8_temperature 12 = .ok (.getfield 134, 3) := by decide +kernel
theorem dX8_temperature_15 : decode cX8_temperature 15 = .ok (.iload_n 1, 1) := by decide +kernel
theorem dX8_temperature_16 : decode cX8_temperature 16 = .ok (.iaload, 1) := by decide +kernel
theorem dX8_temperature_17 : decode cX8_temperature 17 = .ok (.invokestatic 77, 3) := by decide +kernel
theorem dX8_temperature_20 : decode cX8_temperature 20 = .ok (.freturn, 1) := by decide +kernel
theorem dX8_temperatureBits_0 : decode cX8_temperatureBits 0 = .ok (.aload_n 0, 1) := by decide +kernel
theorem dX8_temperatureBits_1 : decode cX8_temperatureBits 1 = .ok (.iload_n 1, 1) := by decide +kernel
theorem dX8_temperatureBits_2 : decode cX8_temperatureBits 2 = .ok (.invokevirtual 123, 3) := by decide +kernel
theorem dX8_temperatureBits_5 : decode cX8_temperatureBits 5 = .ok (.aload_n 0, 1) := by decide +kernel
theorem dX8_temperatureBits_6 : decode cX8_temperatureBits 6 = .ok (.getfield 12, 3) := by decide +kernel
theorem dX8_temperatureBits_9 : decode cX8_temperatureBits 9 = .ok (.getfield 117, 3) := by decide +kernel
theorem dX8_temperatureBits_12 : decode cX8_temperatureBits 12 = .ok (.getfield 134, 3) := by decide +kernel
theorem dX8_temperatureBits_15 : decode cX8_temperatureBits 15 = .ok (.iload_n 1, 1) := by decide +kernel
theorem dX8_temperatureBits_16 : decode cX8_temperatureBits 16 = .ok (.iaload, 1) := by decide +kernel
theorem dX8_temperatureBits_17 : decode cX8_temperatureBits 17 = .ok (.invokestatic 137, 3) := by decide +kernel
theorem dX8_temperatureBits_20 : decode cX8_temperatureBits 20 = .ok (.ireturn, 1) := by decide +kernel
theorem dX8_burner_0 : decode cX8_burner 0 = .ok (.aload_n 0, 1) := by decide +kernel
theorem dX8_burner_1 : decode cX8_burner 1 = .ok (.iload_n 1, 1) := by decide +kernel
theorem dX8_burner_2 : decode cX8_burner 2 = .ok (.invokevirtual 123, 3) := by decide +kernel
theorem dX8_burner_5 : decode cX8_burner 5 = .ok (.aload_n 0, 1) := by decide +kernel
theorem dX8_burner_6 : decode cX8_burner 6 = .ok (.getfield 12, 3) := by decide +kernel
theorem dX8_burner_9 : decode cX8_burner 9 = .ok (.getfield 117, 3) := by decide +kernel
theorem dX8_burner_12 : decode cX8_burner 12 = .ok (.getfield 141, 3) := by decide +kernel
theorem dX8_burner_15 : decode cX8_burner 15 = .ok (.iload_n 1, 1) := by decide +kernel
theorem dX8_burner_16 : decode cX8_burner 16 = .ok (.iaload, 1) := by decide +kernel
theorem dX8_burner_17 : decode cX8_burner 17 = .ok (.ireturn, 1) := by decide +kernel
theorem dX8_isBoiling_0 : decode cX8_isBoiling 0 = .ok (.aload_n 0, 1) := by decide +kernel
theorem dX8_isBoiling_1 : decode cX8_isBoiling 1 = .ok (.iload_n 1, 1) := by decide +kernel
theorem dX8_isBoiling_2 : decode cX8_isBoiling 2 = .ok (.invokevirtual 123, 3) := by decide +kernel
theorem dX8_isBoiling_5 : decode cX8_isBoiling 5 = .ok (.aload_n 0, 1) := by decide +kernel
theorem dX8_isBoiling_6 : decode cX8_isBoiling 6 = .ok (.getfield 12, 3) := by decide +kernel
theorem dX8_isBoiling_9 : decode cX8_isBoiling 9 = .ok (.getfield 117, 3) := by decide +kernel
theorem dX8_isBoiling_12 : decode cX8_isBoiling 12 = .ok (.getfield 144, 3) := by decide +kernel
theorem dX8_isBoiling_15 : decode cX8_isBoiling 15 = .ok (.iload_n 1, 1) := by decide +kernel
theorem dX8_isBoiling_16 : decode cX8_isBoiling 16 = .ok (.baload, 1) := by decide +kernel
theorem dX8_isBoiling_17 : decode cX8_isBoiling 17 = .ok (.ireturn, 1) := by decide +kernel
theorem dX8_minutesUntilBoiling_0 : decode cX8_minutesUntilBoiling 0 = .ok (.aload_n 0, 1) := by decide +kernel
theorem dX8_minutesUntilBoiling_1 : decode cX8_minutesUntilBoiling 1 = .ok (.iload_n 1, 1) := by decide +kernel
theorem dX8_minutesUntilBoiling_2 : decode cX8_minutesUntilBoiling 2 = .ok (.invokevirtual 123, 3) := by decide +kernel
theorem dX8_minutesUntilBoiling_5 : decode cX8_minutesUntilBoiling 5 = .ok (.aload_n 0, 1) := by decide +kernel
theorem dX8_minutesUntilBoiling_6 : decode cX8_minutesUntilBoiling 6 = .ok (.getfield 12, 3) := by decide +kernel
theorem dX8_minutesUntilBoiling_9 : decode cX8_minutesUntilBoiling 9 = .ok (.getfield 117, 3) := by decide +kernel
theorem dX8_minutesUntilBoiling_12 : decode cX8_minutesUntilBoiling 12 = .ok (.iload_n 1, 1) := by decide +kernel
theorem dX8_minutesUntilBoiling_13 : decode cX8_minutesUntilBoiling 13 = .ok (.invokevirtual 148, 3) := by decide +kernel
theorem dX8_minutesUntilBoiling_16 : decode cX8_minutesUntilBoiling 16 = .ok (.invokestatic 151, 3) := by decide +kernel
theorem dX8_minutesUntilBoiling_19 : decode cX8_minutesUntilBoiling 19 = .ok (.ireturn, 1) := by decide +kernel
theorem dX8_minutesUntilBoilingByMinutes_0 : decode cX8_minutesUntilBoilingByMinutes 0 = .ok (.aload_n 0, 1) := by decide +kernel
theorem dX8_minutesUntilBoilingByMinutes_1 : decode cX8_minutesUntilBoilingByMinutes 1 = .ok (.iload_n 1, 1) := by decide +kernel
theorem dX8_minutesUntilBoilingByMinutes_2 : decode cX8_minutesUntilBoilingByMinutes 2 = .ok (.invokevirtual 123, 3) := by decide +kernel
theorem dX8_minutesUntilBoilingByMinutes_5 : decode cX8_minutesUntilBoilingByMinutes 5 = .ok (.aload_n 0, 1) := by decide +kernel
theorem dX8_minutesUntilBoilingByMinutes_6 : decode cX8_minutesUntilBoilingByMinutes 6 = .ok (.iload_n 1, 1) := by decide +kernel
theorem dX8_minutesUntilBoilingByMinutes_7 : decode cX8_minutesUntilBoilingByMinutes 7 = .ok (.invokevirtual 154, 3) := by decide +kernel
theorem dX8_minutesUntilBoilingByMinutes_10 : decode cX8_minutesUntilBoilingByMinutes 10 = .ok (.invokestatic 151, 3) := by decide +kernel
theorem dX8_minutesUntilBoilingByMinutes_13 : decode cX8_minutesUntilBoilingByMinutes 13 = .ok (.ireturn, 1) := by decide +kernel
theorem dX8_kettleByTemperature_0 : decode cX8_kettleByTemperature 0 = .ok (.aload_n 0, 1) := by decide +kernel
theorem dX8_kettleByTemperature_1 : decode cX8_kettleByTemperature 1 = .ok (.getfield 12, 3) := by decide +kernel
theorem dX8_kettleByTemperature_4 : decode cX8_kettleByTemperature 4 = .ok (.getfield 117, 3) := by decide +kernel
theorem dX8_kettleByTemperature_7 : decode cX8_kettleByTemperature 7 = .ok (.iload_n 1, 1) := by decide +kernel
theorem dX8_kettleByTemperature_8 : decode cX8_kettleByTemperature 8 = .ok (.invokevirtual 157, 3) := by decide +kernel
theorem dX8_kettleByTemperature_11 : decode cX8_kettleByTemperature 11 = .ok (.invokestatic 151, 3) := by decide +kernel
theorem dX8_kettleByTemperature_14 : decode cX8_kettleByTemperature 14 = .ok (.ireturn, 1) := by decide +kernel
theorem dX8_waitingCount_0 : decode cX8_waitingCount 0 = .ok (.aload_n 0, 1) := by decide +kernel
theorem dX8_waitingCount_1 : decode cX8_waitingCount 1 = .ok (.getfield 12, 3) := by decide +kernel
theorem dX8_waitingCount_4 : decode cX8_waitingCount 4 = .ok (.getfield 160, 3) := by decide +kernel
theorem dX8_waitingCount_7 : decode cX8_waitingCount 7 = .ok (.getfield 164, 3) := by decide +kernel
theorem dX8_waitingCount_10 : decode cX8_waitingCount 10 = .ok (.ireturn, 1) := by decide +kernel
theorem dX8_orderAt_0 : decode cX8_orderAt 0 = .ok (.aload_n 0, 1) := by decide +kernel
theorem dX8_orderAt_1 : decode cX8_orderAt 1 = .ok (.getfield 12, 3) := by decide +kernel
theorem dX8_orderAt_4 : decode cX8_orderAt 4 = .ok (.getfield 160, 3) := by decide +kernel
theorem dX8_orderAt_7 : decode cX8_orderAt 7 = .ok (.iload_n 1, 1) := by decide +kernel
theorem dX8_orderAt_8 : decode cX8_orderAt 8 = .ok (.invokevirtual 167, 3) := by decide +kernel
theorem dX8_orderAt_11 : decode cX8_orderAt 11 = .ok (.invokestatic 151, 3) := by decide +kernel
theorem dX8_orderAt_14 : decode cX8_orderAt 14 = .ok (.ireturn, 1) := by decide +kernel
theorem dX8_positionOf_0 : decode cX8_positionOf 0 = .ok (.aload_n 0, 1) := by decide +kernel
theorem dX8_positionOf_1 : decode cX8_positionOf 1 = .ok (.getfield 12, 3) := by decide +kernel
theorem dX8_positionOf_4 : decode cX8_positionOf 4 = .ok (.getfield 160, 3) := by decide +kernel
theorem dX8_positionOf_7 : decode cX8_positionOf 7 = .ok (.iload_n 1, 1) := by decide +kernel
theorem dX8_positionOf_8 : decode cX8_positionOf 8 = .ok (.invokevirtual 170, 3) := by decide +kernel
theorem dX8_positionOf_11 : decode cX8_positionOf 11 = .ok (.invokestatic 151, 3) := by decide +kernel
theorem dX8_positionOf_14 : decode cX8_positionOf 14 = .ok (.ireturn, 1) := by decide +kernel
theorem dX8_cupsOf_0 : decode cX8_cupsOf 0 = .ok (.aload_n 0, 1) := by decide +kernel
theorem dX8_cupsOf_1 : decode cX8_cupsOf 1 = .ok (.getfield 12, 3) := by decide +kernel
theorem dX8_cupsOf_4 : decode cX8_cupsOf 4 = .ok (.getfield 160, 3) := by decide +kernel
theorem dX8_cupsOf_7 : decode cX8_cupsOf 7 = .ok (.iload_n 1, 1) := by decide +kernel
theorem dX8_cupsOf_8 : decode cX8_cupsOf 8 = .ok (.invokevirtual 170, 3) := by decide +kernel
theorem dX8_cupsOf_11 : decode cX8_cupsOf 11 = .ok (.invokestatic 151, 3) := by decide +kernel
theorem dX8_cupsOf_14 : decode cX8_cupsOf 14 = .ok (.istore_n 2, 1) := by decide +kernel
theorem dX8_cupsOf_15 : decode cX8_cupsOf 15 = .ok (.aload_n 0, 1) := by decide +kernel
theorem dX8_cupsOf_16 : decode cX8_cupsOf 16 = .ok (.getfield 12, 3) := by decide +kernel
theorem dX8_cupsOf_19 : decode cX8_cupsOf 19 = .ok (.getfield 160, 3) := by decide +kernel
theorem dX8_cupsOf_22 : decode cX8_cupsOf 22 = .ok (.getfield 173, 3) := by decide +kernel
theorem dX8_cupsOf_25 : decode cX8_cupsOf 25 = .ok (.iload_n 2, 1) := by decide +kernel
theorem dX8_cupsOf_26 : decode cX8_cupsOf 26 = .ok (.iaload, 1) := by decide +kernel
theorem dX8_cupsOf_27 : decode cX8_cupsOf 27 = .ok (.ireturn, 1) := by decide +kernel
theorem dX8_priceOf_0 : decode cX8_priceOf 0 = .ok (.aload_n 0, 1) := by decide +kernel
theorem dX8_priceOf_1 : decode cX8_priceOf 1 = .ok (.getfield 12, 3) := by decide +kernel
theorem dX8_priceOf_4 : decode cX8_priceOf 4 = .ok (.getfield 160, 3) := by decide +kernel
theorem dX8_priceOf_7 : decode cX8_priceOf 7 = .ok (.iload_n 1, 1) := by decide +kernel
theorem dX8_priceOf_8 : decode cX8_priceOf 8 = .ok (.invokevirtual 170, 3) := by decide +kernel
theorem dX8_priceOf_11 : decode cX8_priceOf 11 = .ok (.invokestatic 151, 3) := by decide +kernel
theorem dX8_priceOf_14 : decode cX8_priceOf 14 = .ok (.istore_n 2, 1) := by decide +kernel
theorem dX8_priceOf_15 : decode cX8_priceOf 15 = .ok (.aload_n 0, 1) := by decide +kernel
theorem dX8_priceOf_16 : decode cX8_priceOf 16 = .ok (.getfield 12, 3) := by decide +kernel
theorem dX8_priceOf_19 : decode cX8_priceOf 19 = .ok (.getfield 160, 3) := by decide +kernel
theorem dX8_priceOf_22 : decode cX8_priceOf 22 = .ok (.getfield 173, 3) := by decide +kernel
theorem dX8_priceOf_25 : decode cX8_priceOf 25 = .ok (.iload_n 2, 1) := by decide +kernel
theorem dX8_priceOf_26 : decode cX8_priceOf 26 = .ok (.iaload, 1) := by decide +kernel
theorem dX8_priceOf_27 : decode cX8_priceOf 27 = .ok (.aload_n 0, 1) := by decide +kernel
theorem dX8_priceOf_28 : decode cX8_priceOf 28 = .ok (.getfield 12, 3) := by decide +kernel
theorem dX8_priceOf_31 : decode cX8_priceOf 31 = .ok (.getfield 176, 3) := by decide +kernel
theorem dX8_priceOf_34 : decode cX8_priceOf 34 = .ok (.imul, 1) := by decide +kernel
theorem dX8_priceOf_35 : decode cX8_priceOf 35 = .ok (.invokestatic 99, 3) := by decide +kernel
theorem dX8_priceOf_38 : decode cX8_priceOf 38 = .ok (.freturn, 1) := by decide +kernel
theorem dX8_kettleFor_0 : decode cX8_kettleFor 0 = .ok (.aload_n 0, 1) := by decide +kernel
theorem dX8_kettleFor_1 : decode cX8_kettleFor 1 = .ok (.getfield 12, 3) := by decide +kernel
theorem dX8_kettleFor_4 : decode cX8_kettleFor 4 = .ok (.getfield 160, 3) := by decide +kernel
theorem dX8_kettleFor_7 : decode cX8_kettleFor 7 = .ok (.iload_n 1, 1) := by decide +kernel
theorem dX8_kettleFor_8 : decode cX8_kettleFor 8 = .ok (.invokevirtual 170, 3) := by decide +kernel
theorem dX8_kettleFor_11 : decode cX8_kettleFor 11 = .ok (.invokestatic 151, 3) := by decide +kernel
theorem dX8_kettleFor_14 : decode cX8_kettleFor 14 = .ok (.istore_n 2, 1) := by decide +kernel
theorem dX8_kettleFor_15 : decode cX8_kettleFor 15 = .ok (.aload_n 0, 1) := by decide +kernel
theorem dX8_kettleFor_16 : decode cX8_kettleFor 16 = .ok (.getfield 12, 3) := by decide +kernel
theorem dX8_kettleFor_19 : decode cX8_kettleFor 19 = .ok (.getfield 117, 3) := by decide +kernel
theorem dX8_kettleFor_22 : decode cX8_kettleFor 22 = .ok (.aload_n 0, 1) := by decide +kernel
theorem dX8_kettleFor_23 : decode cX8_kettleFor 23 = .ok (.getfield 12, 3) := by decide +kernel
theorem dX8_kettleFor_26 : decode cX8_kettleFor 26 = .ok (.getfield 160, 3) := by decide +kernel
theorem dX8_kettleFor_29 : decode cX8_kettleFor 29 = .ok (.getfield 173, 3) := by decide +kernel
theorem dX8_kettleFor_32 : decode cX8_kettleFor 32 = .ok (.iload_n 2, 1) := by decide +kernel
theorem dX8_kettleFor_33 : decode cX8_kettleFor 33 = .ok (.iaload, 1) := by decide +kernel
theorem dX8_kettleFor_34 : decode cX8_kettleFor 34 = .ok (.aload_n 0, 1) := by decide +kernel
theorem dX8_kettleFor_35 : decode cX8_kettleFor 35 = .ok (.getfield 12, 3) := by decide +kernel
theorem dX8_kettleFor_38 : decode cX8_kettleFor 38 = .ok (.getfield 160, 3) := by decide +kernel
theorem dX8_kettleFor_41 : decode cX8_kettleFor 41 = .ok (.getfield 179, 3) := by decide +kernel
theorem dX8_kettleFor_44 : decode cX8_kettleFor 44 = .ok (.iload_n 2, 1) := by decide +kernel
theorem dX8_kettleFor_45 : decode cX8_kettleFor 45 = .ok (.iaload, 1) := by decide +kernel
theorem dX8_kettleFor_46 : decode cX8_kettleFor 46 = .ok (.invokevirtual 182, 3) := by decide +kernel
theorem dX8_kettleFor_49 : decode cX8_kettleFor 49 = .ok (.invokestatic 151, 3) := by decide +kernel
theorem dX8_kettleFor_52 : decode cX8_kettleFor 52 = .ok (.ireturn, 1) := by decide +kernel
theorem dX8_minutesUntilSuitable_0 : decode cX8_minutesUntilSuitable 0 = .ok (.aload_n 0, 1) := by decide +kernel
theorem dX8_minutesUntilSuitable_1 : decode cX8_minutesUntilSuitable 1 = .ok (.getfield 12, 3) := by decide +kernel
theorem dX8_minutesUntilSuitable_4 : decode cX8_minutesUntilSuitable 4 = .ok (.getfield 160, 3) := by decide +kernel
theorem dX8_minutesUntilSuitable_7 : decode cX8_minutesUntilSuitable 7 = .ok (.iload_n 1, 1) := by decide +kernel
theorem dX8_minutesUntilSuitable_8 : decode cX8_minutesUntilSuitable 8 = .ok (.invokevirtual 170, 3) := by decide +kernel
theorem dX8_minutesUntilSuitable_11 : decode cX8_minutesUntilSuitable 11 = .ok (.invokestatic 151, 3) := by decide +kernel
theorem dX8_minutesUntilSuitable_14 : decode cX8_minutesUntilSuitable 14 = .ok (.istore_n 2, 1) := by decide +kernel
theorem dX8_minutesUntilSuitable_15 : decode cX8_minutesUntilSuitable 15 = .ok (.aload_n 0, 1) := by decide +kernel
theorem dX8_minutesUntilSuitable_16 : decode cX8_minutesUntilSuitable 16 = .ok (.aload_n 0, 1) := by decide +kernel
theorem dX8_minutesUntilSuitable_17 : decode cX8_minutesUntilSuitable 17 = .ok (.getfield 12, 3) := by decide +kernel
theorem dX8_minutesUntilSuitable_20 : decode cX8_minutesUntilSuitable 20 = .ok (.getfield 160, 3) := by decide +kernel
theorem dX8_minutesUntilSuitable_23 : decode cX8_minutesUntilSuitable 23 = .ok (.getfield 173, 3) := by decide +kernel
theorem dX8_minutesUntilSuitable_26 : decode cX8_minutesUntilSuitable 26 = .ok (.iload_n 2, 1) := by decide +kernel
theorem dX8_minutesUntilSuitable_27 : decode cX8_minutesUntilSuitable 27 = .ok (.iaload, 1) := by decide +kernel
theorem dX8_minutesUntilSuitable_28 : decode cX8_minutesUntilSuitable 28 = .ok (.aload_n 0, 1) := by decide +kernel
theorem dX8_minutesUntilSuitable_29 : decode cX8_minutesUntilSuitable 29 = .ok (.getfield 12, 3) := by decide +kernel
theorem dX8_minutesUntilSuitable_32 : decode cX8_minutesUntilSuitable 32 = .ok (.getfield 160, 3) := by decide +kernel
theorem dX8_minutesUntilSuitable_35 : decode cX8_minutesUntilSuitable 35 = .ok (.getfield 179, 3) := by decide +kernel
theorem dX8_minutesUntilSuitable_38 : decode cX8_minutesUntilSuitable 38 = .ok (.iload_n 2, 1) := by decide +kernel
theorem dX8_minutesUntilSuitable_39 : decode cX8_minutesUntilSuitable 39 = .ok (.iaload, 1) := by decide +kernel
theorem dX8_minutesUntilSuitable_40 : decode cX8_minutesUntilSuitable 40 = .ok (.invokevirtual 186, 3) := by decide +kernel
theorem dX8_minutesUntilSuitable_43 : decode cX8_minutesUntilSuitable 43 = .ok (.invokestatic 151, 3) := by decide +kernel
theorem dX8_minutesUntilSuitable_46 : decode cX8_minutesUntilSuitable 46 = .ok (.ireturn, 1) := by decide +kernel
theorem dX8_canServe_0 : decode cX8_canServe 0 = .ok (.aload_n 0, 1) := by decide +kernel
theorem dX8_canServe_1 : decode cX8_canServe 1 = .ok (.getfield 12, 3) := by decide +kernel
theorem dX8_canServe_4 : decode cX8_canServe 4 = .ok (.getstatic 90, 3) := by decide +kernel
theorem dX8_canServe_7 : decode cX8_canServe 7 = .ok (.iconst 0, 1) := by decide +kernel
theorem dX8_canServe_8 : decode cX8_canServe 8 = .ok (.iconst 0, 1) := by decide +kernel
theorem dX8_canServe_9 : decode cX8_canServe 9 = .ok (.iconst 0, 1) := by decide +kernel
theorem dX8_canServe_10 : decode cX8_canServe 10 = .ok (.iconst 0, 1) := by decide +kernel
theorem dX8_canServe_11 : decode cX8_canServe 11 = .ok (.invokevirtual 189, 3) := by decide +kernel
theorem dX8_canServe_14 : decode cX8_canServe 14 = .ok (.getstatic 193, 3) := by decide +kernel
theorem dX8_canServe_17 : decode cX8_canServe 17 = .ok (.if_acmp .ne 7, 3) := by decide +kernel
theorem dX8_canServe_20 : decode cX8_canServe 20 = .ok (.iconst 1, 1) := by decide +kernel
theorem dX8_canServe_21 : decode cX8_canServe 21 = .ok (.goto 4, 3) := by decide +kernel
theorem dX8_canServe_24 : decode cX8_canServe 24 = .ok (.iconst 0, 1) := by decide +kernel
theorem dX8_canServe_25 : decode cX8_canServe 25 = .ok (.ireturn, 1) := by decide +kernel
theorem dX8_cleanCups_0 : decode cX8_cleanCups 0 = .ok (.aload_n 0, 1) := by decide +kernel
theorem dX8_cleanCups_1 : decode cX8_cleanCups 1 = .ok (.getfield 12, 3) := by decide +kernel
theorem dX8_cleanCups_4 : decode cX8_cleanCups 4 = .ok (.getfield 199, 3) := by decide +kernel
theorem dX8_cleanCups_7 : decode cX8_cleanCups 7 = .ok (.ireturn, 1) := by decide +kernel
theorem dX8_steam_0 : decode cX8_steam 0 = .ok (.aload_n 0, 1) := by decide +kernel
theorem dX8_steam_1 : decode cX8_steam 1 = .ok (.getfield 12, 3) := by decide +kernel
theorem dX8_steam_4 : decode cX8_steam 4 = .ok (.getfield 202, 3) := by decide +kernel
theorem dX8_steam_7 : decode cX8_steam 7 = .ok (.invokestatic 99, 3) := by decide +kernel
theorem dX8_steam_10 : decode cX8_steam 10 = .ok (.freturn, 1) := by decide +kernel
theorem dX8_boiledTotal_0 : decode cX8_boiledTotal 0 = .ok (.aload_n 0, 1) := by decide +kernel
theorem dX8_boiledTotal_1 : decode cX8_boiledTotal 1 = .ok (.getfield 12, 3) := by decide +kernel
theorem dX8_boiledTotal_4 : decode cX8_boiledTotal 4 = .ok (.getfield 205, 3) := by decide +kernel
theorem dX8_boiledTotal_7 : decode cX8_boiledTotal 7 = .ok (.invokestatic 99, 3) := by decide +kernel
theorem dX8_boiledTotal_10 : decode cX8_boiledTotal 10 = .ok (.freturn, 1) := by decide +kernel
theorem dX8_pouredTotal_0 : decode cX8_pouredTotal 0 = .ok (.aload_n 0, 1) := by decide +kernel
theorem dX8_pouredTotal_1 : decode cX8_pouredTotal 1 = .ok (.getfield 12, 3) := by decide +kernel
theorem dX8_pouredTotal_4 : decode cX8_pouredTotal 4 = .ok (.getfield 207, 3) := by decide +kernel
theorem dX8_pouredTotal_7 : decode cX8_pouredTotal 7 = .ok (.invokestatic 99, 3) := by decide +kernel
theorem dX8_pouredTotal_10 : decode cX8_pouredTotal 10 = .ok (.freturn, 1) := by decide +kernel
theorem dX8_filledTotal_0 : decode cX8_filledTotal 0 = .ok (.aload_n 0, 1) := by decide +kernel
theorem dX8_filledTotal_1 : decode cX8_filledTotal 1 = .ok (.getfield 12, 3) := by decide +kernel
theorem dX8_filledTotal_4 : decode cX8_filledTotal 4 = .ok (.getfield 210, 3) := by decide +kernel
theorem dX8_filledTotal_7 : decode cX8_filledTotal 7 = .ok (.invokestatic 99, 3) := by decide +kernel
theorem dX8_filledTotal_10 : decode cX8_filledTotal 10 = .ok (.freturn, 1) := by decide +kernel
theorem dX8_cupPrice_0 : decode cX8_cupPrice 0 = .ok (.aload_n 0, 1) := by decide +kernel
theorem dX8_cupPrice_1 : decode cX8_cupPrice 1 = .ok (.getfield 12, 3) := by decide +kernel
theorem dX8_cupPrice_4 : decode cX8_cupPrice 4 = .ok (.getfield 176, 3) := by decide +kernel
theorem dX8_cupPrice_7 : decode cX8_cupPrice 7 = .ok (.invokestatic 99, 3) := by decide +kernel
theorem dX8_cupPrice_10 : decode cX8_cupPrice 10 = .ok (.freturn, 1) := by decide +kernel
theorem dX8_income_0 : decode cX8_income 0 = .ok (.aload_n 0, 1) := by decide +kernel
theorem dX8_income_1 : decode cX8_income 1 = .ok (.getfield 12, 3) := by decide +kernel
theorem dX8_income_4 : decode cX8_income 4 = .ok (.getfield 216, 3) := by decide +kernel
theorem dX8_income_7 : decode cX8_income 7 = .ok (.getfield 220, 3) := by decide +kernel
theorem dX8_income_10 : decode cX8_income 10 = .ok (.invokestatic 99, 3) := by decide +kernel
theorem dX8_income_13 : decode cX8_income 13 = .ok (.freturn, 1) := by decide +kernel
theorem dX8_nightCount_0 : decode cX8_nightCount 0 = .ok (.aload_n 0, 1) := by decide +kernel
theorem dX8_nightCount_1 : decode cX8_nightCount 1 = .ok (.getfield 12, 3) := by decide +kernel
theorem dX8_nightCount_4 : decode cX8_nightCount 4 = .ok (.getfield 216, 3) := by decide +kernel
theorem dX8_nightCount_7 : decode cX8_nightCount 7 = .ok (.getfield 225, 3) := by decide +kernel
theorem dX8_nightCount_10 : decode cX8_nightCount 10 = .ok (.ireturn, 1) := by decide +kernel
theorem dX8_nightIncome_0 : decode cX8_nightIncome 0 = .ok (.iload_n 1, 1) := by decide +kernel
theorem dX8_nightIncome_1 : decode cX8_nightIncome 1 = .ok (.ifCond .lt 17, 3) := by decide +kernel
theorem dX8_nightIncome_4 : decode cX8_nightIncome 4 = .ok (.iload_n 1, 1) := by decide +kernel
theorem dX8_nightIncome_5 : decode cX8_nightIncome 5 = .ok (.aload_n 0, 1) := by decide +kernel
theorem dX8_nightIncome_6 : decode cX8_nightIncome 6 = .ok (.getfield 12, 3) := by decide +kernel
theorem dX8_nightIncome_9 : decode cX8_nightIncome 9 = .ok (.getfield 216, 3) := by decide +kernel
theorem dX8_nightIncome_12 : decode cX8_nightIncome 12 = .ok (.getfield 225, 3) := by decide +kernel
theorem dX8_nightIncome_15 : decode cX8_nightIncome 15 = .ok (.if_icmp .lt 13, 3) := by decide +kernel
theorem dX8_nightIncome_18 : decode cX8_nightIncome 18 = .ok (.new 226, 3) := by decide +kernel
theorem dX8_nightIncome_21 : decode cX8_nightIncome 21 = .ok (.dup, 1) := by decide +kernel
theorem dX8_nightIncome_22 : decode cX8_nightIncome 22 = .ok (.ldc 228, 2) := by decide +kernel
theorem dX8_nightIncome_24 : decode cX8_nightIncome 24 = .ok (.invokespecial 230, 3) := by decide +kernel
theorem dX8_nightIncome_27 : decode cX8_nightIncome 27 = .ok (.athrow, 1) := by decide +kernel
theorem dX8_nightIncome_28 : decode cX8_nightIncome 28 = .ok (.aload_n 0, 1) := by decide +kernel
theorem dX8_nightIncome_29 : decode cX8_nightIncome 29 = .ok (.getfield 12, 3) := by decide +kernel
theorem dX8_nightIncome_32 : decode cX8_nightIncome 32 = .ok (.getfield 216, 3) := by decide +kernel
theorem dX8_nightIncome_35 : decode cX8_nightIncome 35 = .ok (.getfield 233, 3) := by decide +kernel
theorem dX8_nightIncome_38 : decode cX8_nightIncome 38 = .ok (.iload_n 1, 1) := by decide +kernel
theorem dX8_nightIncome_39 : decode cX8_nightIncome 39 = .ok (.iaload, 1) := by decide +kernel
theorem dX8_nightIncome_40 : decode cX8_nightIncome 40 = .ok (.invokestatic 99, 3) := by decide +kernel
theorem dX8_nightIncome_43 : decode cX8_nightIncome 43 = .ok (.freturn, 1) := by decide +kernel
theorem dX8_nightByIncome_0 : decode cX8_nightByIncome 0 = .ok (.aload_n 0, 1) := by decide +kernel
theorem dX8_nightByIncome_1 : decode cX8_nightByIncome 1 = .ok (.getfield 12, 3) := by decide +kernel
theorem dX8_nightByIncome_4 : decode cX8_nightByIncome 4 = .ok (.getfield 216, 3) := by decide +kernel
theorem dX8_nightByIncome_7 : decode cX8_nightByIncome 7 = .ok (.iload_n 1, 1) := by decide +kernel
theorem dX8_nightByIncome_8 : decode cX8_nightByIncome 8 = .ok (.invokevirtual 236, 3) := by decide +kernel
theorem dX8_nightByIncome_11 : decode cX8_nightByIncome 11 = .ok (.invokestatic 151, 3) := by decide +kernel
theorem dX8_nightByIncome_14 : decode cX8_nightByIncome 14 = .ok (.ireturn, 1) := by decide +kernel
theorem dX8_greatestIncome_0 : decode cX8_greatestIncome 0 = .ok (.aload_n 0, 1) := by decide +kernel
theorem dX8_greatestIncome_1 : decode cX8_greatestIncome 1 = .ok (.iload_n 1, 1) := by decide +kernel
theorem dX8_greatestIncome_2 : decode cX8_greatestIncome 2 = .ok (.invokevirtual 237, 3) := by decide +kernel
theorem dX8_greatestIncome_5 : decode cX8_greatestIncome 5 = .ok (.aload_n 0, 1) := by decide +kernel
theorem dX8_greatestIncome_6 : decode cX8_greatestIncome 6 = .ok (.getfield 12, 3) := by decide +kernel
theorem dX8_greatestIncome_9 : decode cX8_greatestIncome 9 = .ok (.getfield 216, 3) := by decide +kernel
theorem dX8_greatestIncome_12 : decode cX8_greatestIncome 12 = .ok (.iload_n 1, 1) := by decide +kernel
theorem dX8_greatestIncome_13 : decode cX8_greatestIncome 13 = .ok (.invokevirtual 240, 3) := by decide +kernel
theorem dX8_greatestIncome_16 : decode cX8_greatestIncome 16 = .ok (.invokestatic 99, 3) := by decide +kernel
theorem dX8_greatestIncome_19 : decode cX8_greatestIncome 19 = .ok (.freturn, 1) := by decide +kernel
theorem dX8_greatestIncomeBySums_0 : decode cX8_greatestIncomeBySums 0 = .ok (.aload_n 0, 1) := by decide +kernel
theorem dX8_greatestIncomeBySums_1 : decode cX8_greatestIncomeBySums 1 = .ok (.iload_n 1, 1) := by decide +kernel
theorem dX8_greatestIncomeBySums_2 : decode cX8_greatestIncomeBySums 2 = .ok (.invokevirtual 237, 3) := by decide +kernel
theorem dX8_greatestIncomeBySums_5 : decode cX8_greatestIncomeBySums 5 = .ok (.aload_n 0, 1) := by decide +kernel
theorem dX8_greatestIncomeBySums_6 : decode cX8_greatestIncomeBySums 6 = .ok (.getfield 12, 3) := by decide +kernel
theorem dX8_greatestIncomeBySums_9 : decode cX8_greatestIncomeBySums 9 = .ok (.getfield 216, 3) := by decide +kernel
theorem dX8_greatestIncomeBySums_12 : decode cX8_greatestIncomeBySums 12 = .ok (.iload_n 1, 1) := by decide +kernel
theorem dX8_greatestIncomeBySums_13 : decode cX8_greatestIncomeBySums 13 = .ok (.invokevirtual 243, 3) := by decide +kernel
theorem dX8_greatestIncomeBySums_16 : decode cX8_greatestIncomeBySums 16 = .ok (.invokestatic 99, 3) := by decide +kernel
theorem dX8_greatestIncomeBySums_19 : decode cX8_greatestIncomeBySums 19 = .ok (.freturn, 1) := by decide +kernel
theorem dX8_totalIncome_0 : decode cX8_totalIncome 0 = .ok (.aload_n 0, 1) := by decide +kernel
theorem dX8_totalIncome_1 : decode cX8_totalIncome 1 = .ok (.getfield 12, 3) := by decide +kernel
theorem dX8_totalIncome_4 : decode cX8_totalIncome 4 = .ok (.getfield 216, 3) := by decide +kernel
theorem dX8_totalIncome_7 : decode cX8_totalIncome 7 = .ok (.invokevirtual 246, 3) := by decide +kernel
theorem dX8_totalIncome_10 : decode cX8_totalIncome 10 = .ok (.invokestatic 99, 3) := by decide +kernel
theorem dX8_totalIncome_13 : decode cX8_totalIncome 13 = .ok (.freturn, 1) := by decide +kernel
theorem dX8_totalIncomeBySales_0 : decode cX8_totalIncomeBySales 0 = .ok (.aload_n 0, 1) := by decide +kernel
theorem dX8_totalIncomeBySales_1 : decode cX8_totalIncomeBySales 1 = .ok (.getfield 12, 3) := by decide +kernel
theorem dX8_totalIncomeBySales_4 : decode cX8_totalIncomeBySales 4 = .ok (.getfield 216, 3) := by decide +kernel
theorem dX8_totalIncomeBySales_7 : decode cX8_totalIncomeBySales 7 = .ok (.invokevirtual 250, 3) := by decide +kernel
theorem dX8_totalIncomeBySales_10 : decode cX8_totalIncomeBySales 10 = .ok (.invokestatic 99, 3) := by decide +kernel
theorem dX8_totalIncomeBySales_13 : decode cX8_totalIncomeBySales 13 = .ok (.freturn, 1) := by decide +kernel
theorem dX8_whistlesHeard_0 : decode cX8_whistlesHeard 0 = .ok (.aload_n 0, 1) := by decide +kernel
theorem dX8_whistlesHeard_1 : decode cX8_whistlesHeard 1 = .ok (.getfield 12, 3) := by decide +kernel
theorem dX8_whistlesHeard_4 : decode cX8_whistlesHeard 4 = .ok (.getfield 256, 3) := by decide +kernel
theorem dX8_whistlesHeard_7 : decode cX8_whistlesHeard 7 = .ok (.ireturn, 1) := by decide +kernel
theorem dX8_whistlesLost_0 : decode cX8_whistlesLost 0 = .ok (.aload_n 0, 1) := by decide +kernel
theorem dX8_whistlesLost_1 : decode cX8_whistlesLost 1 = .ok (.getfield 12, 3) := by decide +kernel
theorem dX8_whistlesLost_4 : decode cX8_whistlesLost 4 = .ok (.getfield 259, 3) := by decide +kernel
theorem dX8_whistlesLost_7 : decode cX8_whistlesLost 7 = .ok (.ireturn, 1) := by decide +kernel
theorem dX8_meanTemperature_0 : decode cX8_meanTemperature 0 = .ok (.aload_n 0, 1) := by decide +kernel
theorem dX8_meanTemperature_1 : decode cX8_meanTemperature 1 = .ok (.getfield 12, 3) := by decide +kernel
theorem dX8_meanTemperature_4 : decode cX8_meanTemperature 4 = .ok (.getfield 117, 3) := by decide +kernel
theorem dX8_meanTemperature_7 : decode cX8_meanTemperature 7 = .ok (.getfield 120, 3) := by decide +kernel
theorem dX8_meanTemperature_10 : decode cX8_meanTemperature 10 = .ok (.istore_n 1, 1) := by decide +kernel
theorem dX8_meanTemperature_11 : decode cX8_meanTemperature 11 = .ok (.iload_n 1, 1) := by decide +kernel
theorem dX8_meanTemperature_12 : decode cX8_meanTemperature 12 = .ok (.ifCond .gt 14, 3) := by decide +kernel
theorem dX8_meanTemperature_15 : decode cX8_meanTemperature 15 = .ok (.new 262, 3) := by decide +kernel
theorem dX8_meanTemperature_18 : decode cX8_meanTemperature 18 = .ok (.dup, 1) := by decide +kernel
theorem dX8_meanTemperature_19 : decode cX8_meanTemperature 19 = .ok (.ldc_w 264, 3) := by decide +kernel
theorem dX8_meanTemperature_22 : decode cX8_meanTemperature 22 = .ok (.invokespecial 266, 3) := by decide +kernel
theorem dX8_meanTemperature_25 : decode cX8_meanTemperature 25 = .ok (.athrow, 1) := by decide +kernel
theorem dX8_meanTemperature_26 : decode cX8_meanTemperature 26 = .ok (.dconst 0, 1) := by decide +kernel
theorem dX8_meanTemperature_27 : decode cX8_meanTemperature 27 = .ok (.dstore_n 2, 1) := by decide +kernel
theorem dX8_meanTemperature_28 : decode cX8_meanTemperature 28 = .ok (.iconst 0, 1) := by decide +kernel
theorem dX8_meanTemperature_29 : decode cX8_meanTemperature 29 = .ok (.istore 4, 2) := by decide +kernel
theorem dX8_meanTemperature_31 : decode cX8_meanTemperature 31 = .ok (.iload 4, 2) := by decide +kernel
theorem dX8_meanTemperature_33 : decode cX8_meanTemperature 33 = .ok (.iload_n 1, 1) := by decide +kernel
theorem dX8_meanTemperature_34 : decode cX8_meanTemperature 34 = .ok (.if_icmp .ge 29, 3) := by decide +kernel
theorem dX8_meanTemperature_37 : decode cX8_meanTemperature 37 = .ok (.dload_n 2, 1) := by decide +kernel
theorem dX8_meanTemperature_38 : decode cX8_meanTemperature 38 = .ok (.aload_n 0, 1) := by decide +kernel
theorem dX8_meanTemperature_39 : decode cX8_meanTemperature 39 = .ok (.getfield 12, 3) := by decide +kernel
theorem dX8_meanTemperature_42 : decode cX8_meanTemperature 42 = .ok (.getfield 117, 3) := by decide +kernel
theorem dX8_meanTemperature_45 : decode cX8_meanTemperature 45 = .ok (.getfield 134, 3) := by decide +kernel
theorem dX8_meanTemperature_48 : decode cX8_meanTemperature 48 = .ok (.iload 4, 2) := by decide +kernel
theorem dX8_meanTemperature_50 : decode cX8_meanTemperature 50 = .ok (.iaload, 1) := by decide +kernel
theorem dX8_meanTemperature_51 : decode cX8_meanTemperature 51 = .ok (.invokestatic 77, 3) := by decide +kernel
theorem dX8_meanTemperature_54 : decode cX8_meanTemperature 54 = .ok (.f2d, 1) := by decide +kernel
theorem dX8_meanTemperature_55 : decode cX8_meanTemperature 55 = .ok (.dadd, 1) := by decide +kernel
theorem dX8_meanTemperature_56 : decode cX8_meanTemperature 56 = .ok (.dstore_n 2, 1) := by decide +kernel
theorem dX8_meanTemperature_57 : decode cX8_meanTemperature 57 = .ok (.iinc 4 1, 3) := by decide +kernel
theorem dX8_meanTemperature_60 : decode cX8_meanTemperature 60 = .ok (.goto (-29), 3) := by decide +kernel
theorem dX8_meanTemperature_63 : decode cX8_meanTemperature 63 = .ok (.dload_n 2, 1) := by decide +kernel
theorem dX8_meanTemperature_64 : decode cX8_meanTemperature 64 = .ok (.iload_n 1, 1) := by decide +kernel
theorem dX8_meanTemperature_65 : decode cX8_meanTemperature 65 = .ok (.i2d, 1) := by decide +kernel
theorem dX8_meanTemperature_66 : decode cX8_meanTemperature 66 = .ok (.ddiv, 1) := by decide +kernel
theorem dX8_meanTemperature_67 : decode cX8_meanTemperature 67 = .ok (.dreturn, 1) := by decide +kernel
theorem dX8_lostShare_0 : decode cX8_lostShare 0 = .ok (.aload_n 0, 1) := by decide +kernel
theorem dX8_lostShare_1 : decode cX8_lostShare 1 = .ok (.getfield 12, 3) := by decide +kernel
theorem dX8_lostShare_4 : decode cX8_lostShare 4 = .ok (.getfield 256, 3) := by decide +kernel
theorem dX8_lostShare_7 : decode cX8_lostShare 7 = .ok (.aload_n 0, 1) := by decide +kernel
theorem dX8_lostShare_8 : decode cX8_lostShare 8 = .ok (.getfield 12, 3) := by decide +kernel
theorem dX8_lostShare_11 : decode cX8_lostShare 11 = .ok (.getfield 259, 3) := by decide +kernel
theorem dX8_lostShare_14 : decode cX8_lostShare 14 = .ok (.iadd, 1) := by decide +kernel
theorem dX8_lostShare_15 : decode cX8_lostShare 15 = .ok (.istore_n 1, 1) := by decide +kernel
theorem dX8_lostShare_16 : decode cX8_lostShare 16 = .ok (.iload_n 1, 1) := by decide +kernel
theorem dX8_lostShare_17 : decode cX8_lostShare 17 = .ok (.ifCond .gt 14, 3) := by decide +kernel
theorem dX8_lostShare_20 : decode cX8_lostShare 20 = .ok (.new 262, 3) := by decide +kernel
theorem dX8_lostShare_23 : decode cX8_lostShare 23 = .ok (.dup, 1) := by decide +kernel
theorem dX8_lostShare_24 : decode cX8_lostShare 24 = .ok (.ldc_w 267, 3) := by decide +kernel
theorem dX8_lostShare_27 : decode cX8_lostShare 27 = .ok (.invokespecial 266, 3) := by decide +kernel
theorem dX8_lostShare_30 : decode cX8_lostShare 30 = .ok (.athrow, 1) := by decide +kernel
theorem dX8_lostShare_31 : decode cX8_lostShare 31 = .ok (.aload_n 0, 1) := by decide +kernel
theorem dX8_lostShare_32 : decode cX8_lostShare 32 = .ok (.getfield 12, 3) := by decide +kernel
theorem dX8_lostShare_35 : decode cX8_lostShare 35 = .ok (.getfield 259, 3) := by decide +kernel
theorem dX8_lostShare_38 : decode cX8_lostShare 38 = .ok (.i2f, 1) := by decide +kernel
theorem dX8_lostShare_39 : decode cX8_lostShare 39 = .ok (.iload_n 1, 1) := by decide +kernel
theorem dX8_lostShare_40 : decode cX8_lostShare 40 = .ok (.i2f, 1) := by decide +kernel
theorem dX8_lostShare_41 : decode cX8_lostShare 41 = .ok (.fdiv, 1) := by decide +kernel
theorem dX8_lostShare_42 : decode cX8_lostShare 42 = .ok (.freturn, 1) := by decide +kernel
theorem dX8_isBalanced_0 : decode cX8_isBalanced 0 = .ok (.aload_n 0, 1) := by decide +kernel
theorem dX8_isBalanced_1 : decode cX8_isBalanced 1 = .ok (.getfield 12, 3) := by decide +kernel
theorem dX8_isBalanced_4 : decode cX8_isBalanced 4 = .ok (.getfield 210, 3) := by decide +kernel
theorem dX8_isBalanced_7 : decode cX8_isBalanced 7 = .ok (.aload_n 0, 1) := by decide +kernel
theorem dX8_isBalanced_8 : decode cX8_isBalanced 8 = .ok (.getfield 12, 3) := by decide +kernel
theorem dX8_isBalanced_11 : decode cX8_isBalanced 11 = .ok (.getfield 117, 3) := by decide +kernel
theorem dX8_isBalanced_14 : decode cX8_isBalanced 14 = .ok (.invokevirtual 269, 3) := by decide +kernel
theorem dX8_isBalanced_17 : decode cX8_isBalanced 17 = .ok (.aload_n 0, 1) := by decide +kernel
theorem dX8_isBalanced_18 : decode cX8_isBalanced 18 = .ok (.getfield 12, 3) := by decide +kernel
theorem dX8_isBalanced_21 : decode cX8_isBalanced 21 = .ok (.getfield 207, 3) := by decide +kernel
theorem dX8_isBalanced_24 : decode cX8_isBalanced 24 = .ok (.iadd, 1) := by decide +kernel
theorem dX8_isBalanced_25 : decode cX8_isBalanced 25 = .ok (.aload_n 0, 1) := by decide +kernel
theorem dX8_isBalanced_26 : decode cX8_isBalanced 26 = .ok (.getfield 12, 3) := by decide +kernel
theorem dX8_isBalanced_29 : decode cX8_isBalanced 29 = .ok (.getfield 205, 3) := by decide +kernel
theorem dX8_isBalanced_32 : decode cX8_isBalanced 32 = .ok (.iadd, 1) := by decide +kernel
theorem dX8_isBalanced_33 : decode cX8_isBalanced 33 = .ok (.if_icmp .ne 77, 3) := by decide +kernel
theorem dX8_isBalanced_36 : decode cX8_isBalanced 36 = .ok (.aload_n 0, 1) := by decide +kernel
theorem dX8_isBalanced_37 : decode cX8_isBalanced 37 = .ok (.getfield 12, 3) := by decide +kernel
theorem dX8_isBalanced_40 : decode cX8_isBalanced 40 = .ok (.getfield 202, 3) := by decide +kernel
theorem dX8_isBalanced_43 : decode cX8_isBalanced 43 = .ok (.aload_n 0, 1) := by decide +kernel
theorem dX8_isBalanced_44 : decode cX8_isBalanced 44 = .ok (.getfield 12, 3) := by decide +kernel
theorem dX8_isBalanced_47 : decode cX8_isBalanced 47 = .ok (.getfield 205, 3) := by decide +kernel
theorem dX8_isBalanced_50 : decode cX8_isBalanced 50 = .ok (.if_icmp .gt 60, 3) := by decide +kernel
theorem dX8_isBalanced_53 : decode cX8_isBalanced 53 = .ok (.aload_n 0, 1) := by decide +kernel
theorem dX8_isBalanced_54 : decode cX8_isBalanced 54 = .ok (.getfield 12, 3) := by decide +kernel
theorem dX8_isBalanced_57 : decode cX8_isBalanced 57 = .ok (.getfield 216, 3) := by decide +kernel
theorem dX8_isBalanced_60 : decode cX8_isBalanced 60 = .ok (.invokevirtual 272, 3) := by decide +kernel
theorem dX8_isBalanced_63 : decode cX8_isBalanced 63 = .ok (.ifCond .eq 47, 3) := by decide +kernel
theorem dX8_isBalanced_66 : decode cX8_isBalanced 66 = .ok (.aload_n 0, 1) := by decide +kernel
theorem dX8_isBalanced_67 : decode cX8_isBalanced 67 = .ok (.getfield 12, 3) := by decide +kernel
theorem dX8_isBalanced_70 : decode cX8_isBalanced 70 = .ok (.getfield 160, 3) := by decide +kernel
theorem dX8_isBalanced_73 : decode cX8_isBalanced 73 = .ok (.invokevirtual 276, 3) := by decide +kernel
theorem dX8_isBalanced_76 : decode cX8_isBalanced 76 = .ok (.ifCond .eq 34, 3) := by decide +kernel
theorem dX8_isBalanced_79 : decode cX8_isBalanced 79 = .ok (.aload_n 0, 1) := by decide +kernel
theorem dX8_isBalanced_80 : decode cX8_isBalanced 80 = .ok (.getfield 12, 3) := by decide +kernel
theorem dX8_isBalanced_83 : decode cX8_isBalanced 83 = .ok (.getfield 117, 3) := by decide +kernel
theorem dX8_isBalanced_86 : decode cX8_isBalanced 86 = .ok (.invokevirtual 277, 3) := by decide +kernel
theorem dX8_isBalanced_89 : decode cX8_isBalanced 89 = .ok (.ifCond .eq 21, 3) := by decide +kernel
theorem dX8_isBalanced_92 : decode cX8_isBalanced 92 = .ok (.aload_n 0, 1) := by decide +kernel
theorem dX8_isBalanced_93 : decode cX8_isBalanced 93 = .ok (.invokevirtual 280, 3) := by decide +kernel
theorem dX8_isBalanced_96 : decode cX8_isBalanced 96 = .ok (.ifCond .eq 14, 3) := by decide +kernel
theorem dX8_isBalanced_99 : decode cX8_isBalanced 99 = .ok (.aload_n 0, 1) := by decide +kernel
theorem dX8_isBalanced_100 : decode cX8_isBalanced 100 = .ok (.invokevirtual 283, 3) := by decide +kernel
theorem dX8_isBalanced_103 : decode cX8_isBalanced 103 = .ok (.ifCond .eq 7, 3) := by decide +kernel
theorem dX8_isBalanced_106 : decode cX8_isBalanced 106 = .ok (.iconst 1, 1) := by decide +kernel
theorem dX8_isBalanced_107 : decode cX8_isBalanced 107 = .ok (.goto 4, 3) := by decide +kernel
theorem dX8_isBalanced_110 : decode cX8_isBalanced 110 = .ok (.iconst 0, 1) := by decide +kernel
theorem dX8_isBalanced_111 : decode cX8_isBalanced 111 = .ok (.ireturn, 1) := by decide +kernel
theorem dX8_formatKettle_0 : decode cX8_formatKettle 0 = .ok (.aload_n 0, 1) := by decide +kernel
theorem dX8_formatKettle_1 : decode cX8_formatKettle 1 = .ok (.iload_n 1, 1) := by decide +kernel
theorem dX8_formatKettle_2 : decode cX8_formatKettle 2 = .ok (.invokevirtual 123, 3) := by decide +kernel
theorem dX8_formatKettle_5 : decode cX8_formatKettle 5 = .ok (.aload_n 0, 1) := by decide +kernel
theorem dX8_formatKettle_6 : decode cX8_formatKettle 6 = .ok (.getfield 43, 3) := by decide +kernel
theorem dX8_formatKettle_9 : decode cX8_formatKettle 9 = .ok (.iconst 0, 1) := by decide +kernel
theorem dX8_formatKettle_10 : decode cX8_formatKettle 10 = .ok (.invokevirtual 286, 3) := by decide +kernel
theorem dX8_formatKettle_13 : decode cX8_formatKettle 13 = .ok (.aload_n 0, 1) := by decide +kernel
theorem dX8_formatKettle_14 : decode cX8_formatKettle 14 = .ok (.getfield 12, 3) := by decide +kernel
theorem dX8_formatKettle_17 : decode cX8_formatKettle 17 = .ok (.getfield 117, 3) := by decide +kernel
theorem dX8_formatKettle_20 : decode cX8_formatKettle 20 = .ok (.iload_n 1, 1) := by decide +kernel
theorem dX8_formatKettle_21 : decode cX8_formatKettle 21 = .ok (.aload_n 0, 1) := by decide +kernel
theorem dX8_formatKettle_22 : decode cX8_formatKettle 22 = .ok (.getfield 43, 3) := by decide +kernel
theorem dX8_formatKettle_25 : decode cX8_formatKettle 25 = .ok (.invokevirtual 289, 3) := by decide +kernel
theorem dX8_formatKettle_28 : decode cX8_formatKettle 28 = .ok (.aload_n 0, 1) := by decide +kernel
theorem dX8_formatKettle_29 : decode cX8_formatKettle 29 = .ok (.getfield 43, 3) := by decide +kernel
theorem dX8_formatKettle_32 : decode cX8_formatKettle 32 = .ok (.invokevirtual 293, 3) := by decide +kernel
theorem dX8_formatKettle_35 : decode cX8_formatKettle 35 = .ok (.ireturn, 1) := by decide +kernel
theorem dX8_formatOrder_0 : decode cX8_formatOrder 0 = .ok (.aload_n 0, 1) := by decide +kernel
theorem dX8_formatOrder_1 : decode cX8_formatOrder 1 = .ok (.getfield 12, 3) := by decide +kernel
theorem dX8_formatOrder_4 : decode cX8_formatOrder 4 = .ok (.getfield 160, 3) := by decide +kernel
theorem dX8_formatOrder_7 : decode cX8_formatOrder 7 = .ok (.iload_n 1, 1) := by decide +kernel
theorem dX8_formatOrder_8 : decode cX8_formatOrder 8 = .ok (.invokevirtual 170, 3) := by decide +kernel
theorem dX8_formatOrder_11 : decode cX8_formatOrder 11 = .ok (.invokestatic 151, 3) := by decide +kernel
theorem dX8_formatOrder_14 : decode cX8_formatOrder 14 = .ok (.istore_n 2, 1) := by decide +kernel
theorem dX8_formatOrder_15 : decode cX8_formatOrder 15 = .ok (.aload_n 0, 1) := by decide +kernel
theorem dX8_formatOrder_16 : decode cX8_formatOrder 16 = .ok (.getfield 43, 3) := by decide +kernel
theorem dX8_formatOrder_19 : decode cX8_formatOrder 19 = .ok (.iconst 0, 1) := by decide +kernel
theorem dX8_formatOrder_20 : decode cX8_formatOrder 20 = .ok (.invokevirtual 286, 3) := by decide +kernel
theorem dX8_formatOrder_23 : decode cX8_formatOrder 23 = .ok (.aload_n 0, 1) := by decide +kernel
theorem dX8_formatOrder_24 : decode cX8_formatOrder 24 = .ok (.getfield 12, 3) := by decide +kernel
theorem dX8_formatOrder_27 : decode cX8_formatOrder 27 = .ok (.getfield 160, 3) := by decide +kernel
theorem dX8_formatOrder_30 : decode cX8_formatOrder 30 = .ok (.iload_n 2, 1) := by decide +kernel
theorem dX8_formatOrder_31 : decode cX8_formatOrder 31 = .ok (.aload_n 0, 1) := by decide +kernel
theorem dX8_formatOrder_32 : decode cX8_formatOrder 32 = .ok (.getfield 43, 3) := by decide +kernel
theorem dX8_formatOrder_35 : decode cX8_formatOrder 35 = .ok (.invokevirtual 296, 3) := by decide +kernel
theorem dX8_formatOrder_38 : decode cX8_formatOrder 38 = .ok (.aload_n 0, 1) := by decide +kernel
theorem dX8_formatOrder_39 : decode cX8_formatOrder 39 = .ok (.getfield 43, 3) := by decide +kernel
theorem dX8_formatOrder_42 : decode cX8_formatOrder 42 = .ok (.invokevirtual 293, 3) := by decide +kernel
theorem dX8_formatOrder_45 : decode cX8_formatOrder 45 = .ok (.ireturn, 1) := by decide +kernel
theorem dX8_formatLedger_0 : decode cX8_formatLedger 0 = .ok (.aload_n 0, 1) := by decide +kernel
theorem dX8_formatLedger_1 : decode cX8_formatLedger 1 = .ok (.getfield 43, 3) := by decide +kernel
theorem dX8_formatLedger_4 : decode cX8_formatLedger 4 = .ok (.iconst 0, 1) := by decide +kernel
theorem dX8_formatLedger_5 : decode cX8_formatLedger 5 = .ok (.invokevirtual 286, 3) := by decide +kernel
theorem dX8_formatLedger_8 : decode cX8_formatLedger 8 = .ok (.aload_n 0, 1) := by decide +kernel
theorem dX8_formatLedger_9 : decode cX8_formatLedger 9 = .ok (.getfield 12, 3) := by decide +kernel
theorem dX8_formatLedger_12 : decode cX8_formatLedger 12 = .ok (.getfield 216, 3) := by decide +kernel
theorem dX8_formatLedger_15 : decode cX8_formatLedger 15 = .ok (.aload_n 0, 1) := by decide +kernel
theorem dX8_formatLedger_16 : decode cX8_formatLedger 16 = .ok (.getfield 43, 3) := by decide +kernel
theorem dX8_formatLedger_19 : decode cX8_formatLedger 19 = .ok (.invokevirtual 297, 3) := by decide +kernel
theorem dX8_formatLedger_22 : decode cX8_formatLedger 22 = .ok (.aload_n 0, 1) := by decide +kernel
theorem dX8_formatLedger_23 : decode cX8_formatLedger 23 = .ok (.getfield 43, 3) := by decide +kernel
theorem dX8_formatLedger_26 : decode cX8_formatLedger 26 = .ok (.invokevirtual 293, 3) := by decide +kernel
theorem dX8_formatLedger_29 : decode cX8_formatLedger 29 = .ok (.ireturn, 1) := by decide +kernel
theorem dX8_lineChar_0 : decode cX8_lineChar 0 = .ok (.iload_n 1, 1) := by decide +kernel
theorem dX8_lineChar_1 : decode cX8_lineChar 1 = .ok (.ifCond .lt 14, 3) := by decide +kernel
theorem dX8_lineChar_4 : decode cX8_lineChar 4 = .ok (.iload_n 1, 1) := by decide +kernel
theorem dX8_lineChar_5 : decode cX8_lineChar 5 = .ok (.aload_n 0, 1) := by decide +kernel
theorem dX8_lineChar_6 : decode cX8_lineChar 6 = .ok (.getfield 43, 3) := by decide +kernel
theorem dX8_lineChar_9 : decode cX8_lineChar 9 = .ok (.invokevirtual 293, 3) := by decide +kernel
theorem dX8_lineChar_12 : decode cX8_lineChar 12 = .ok (.if_icmp .lt 14, 3) := by decide +kernel
theorem dX8_lineChar_15 : decode cX8_lineChar 15 = .ok (.new 226, 3) := by decide +kernel
theorem dX8_lineChar_18 : decode cX8_lineChar 18 = .ok (.dup, 1) := by decide +kernel
theorem dX8_lineChar_19 : decode cX8_lineChar 19 = .ok (.ldc_w 300, 3) := by decide +kernel
theorem dX8_lineChar_22 : decode cX8_lineChar 22 = .ok (.invokespecial 230, 3) := by decide +kernel
theorem dX8_lineChar_25 : decode cX8_lineChar 25 = .ok (.athrow, 1) := by decide +kernel
theorem dX8_lineChar_26 : decode cX8_lineChar 26 = .ok (.aload_n 0, 1) := by decide +kernel
theorem dX8_lineChar_27 : decode cX8_lineChar 27 = .ok (.getfield 43, 3) := by decide +kernel
theorem dX8_lineChar_30 : decode cX8_lineChar 30 = .ok (.iload_n 1, 1) := by decide +kernel
theorem dX8_lineChar_31 : decode cX8_lineChar 31 = .ok (.invokevirtual 302, 3) := by decide +kernel
theorem dX8_lineChar_34 : decode cX8_lineChar 34 = .ok (.ireturn, 1) := by decide +kernel
theorem dX8_undoableCount_0 : decode cX8_undoableCount 0 = .ok (.aload_n 0, 1) := by decide +kernel
theorem dX8_undoableCount_1 : decode cX8_undoableCount 1 = .ok (.getfield 51, 3) := by decide +kernel
theorem dX8_undoableCount_4 : decode cX8_undoableCount 4 = .ok (.ireturn, 1) := by decide +kernel
theorem dX8_change_0 : decode cX8_change 0 = .ok (.aload_n 0, 1) := by decide +kernel
theorem dX8_change_1 : decode cX8_change 1 = .ok (.getfield 12, 3) := by decide +kernel
theorem dX8_change_4 : decode cX8_change 4 = .ok (.aload_n 1, 1) := by decide +kernel
theorem dX8_change_5 : decode cX8_change 5 = .ok (.iload_n 2, 1) := by decide +kernel
theorem dX8_change_6 : decode cX8_change 6 = .ok (.iload_n 3, 1) := by decide +kernel
theorem dX8_change_7 : decode cX8_change 7 = .ok (.iload 4, 2) := by decide +kernel
theorem dX8_change_9 : decode cX8_change 9 = .ok (.iload 5, 2) := by decide +kernel
theorem dX8_change_11 : decode cX8_change 11 = .ok (.invokevirtual 189, 3) := by decide +kernel
theorem dX8_change_14 : decode cX8_change 14 = .ok (.invokestatic 349, 3) := by decide +kernel
theorem dX8_change_17 : decode cX8_change 17 = .ok (.aload_n 0, 1) := by decide +kernel
theorem dX8_change_18 : decode cX8_change 18 = .ok (.invokevirtual 335, 3) := by decide +kernel
theorem dX8_change_21 : decode cX8_change 21 = .ok (.aload_n 0, 1) := by decide +kernel
theorem dX8_change_22 : decode cX8_change 22 = .ok (.getfield 12, 3) := by decide +kernel
theorem dX8_change_25 : decode cX8_change 25 = .ok (.aload_n 1, 1) := by decide +kernel
theorem dX8_change_26 : decode cX8_change 26 = .ok (.iload_n 2, 1) := by decide +kernel
theorem dX8_change_27 : decode cX8_change 27 = .ok (.iload_n 3, 1) := by decide +kernel
theorem dX8_change_28 : decode cX8_change 28 = .ok (.iload 4, 2) := by decide +kernel
theorem dX8_change_30 : decode cX8_change 30 = .ok (.iload 5, 2) := by decide +kernel
theorem dX8_change_32 : decode cX8_change 32 = .ok (.invokevirtual 353, 3) := by decide +kernel
theorem dX8_change_35 : decode cX8_change 35 = .ok (.ireturn, 1) := by decide +kernel
theorem dX8_remember_0 : decode cX8_remember 0 = .ok (.aload_n 0, 1) := by decide +kernel
theorem dX8_remember_1 : decode cX8_remember 1 = .ok (.getfield 22, 3) := by decide +kernel
theorem dX8_remember_4 : decode cX8_remember 4 = .ok (.aload_n 0, 1) := by decide +kernel
theorem dX8_remember_5 : decode cX8_remember 5 = .ok (.getfield 55, 3) := by decide +kernel
theorem dX8_remember_8 : decode cX8_remember 8 = .ok (.aaload, 1) := by decide +kernel
theorem dX8_remember_9 : decode cX8_remember 9 = .ok (.aload_n 0, 1) := by decide +kernel
theorem dX8_remember_10 : decode cX8_remember 10 = .ok (.getfield 12, 3) := by decide +kernel
theorem dX8_remember_13 : decode cX8_remember 13 = .ok (.invokevirtual 338, 3) := by decide +kernel
theorem dX8_remember_16 : decode cX8_remember 16 = .ok (.aload_n 0, 1) := by decide +kernel
theorem dX8_remember_17 : decode cX8_remember 17 = .ok (.aload_n 0, 1) := by decide +kernel
theorem dX8_remember_18 : decode cX8_remember 18 = .ok (.getfield 55, 3) := by decide +kernel
theorem dX8_remember_21 : decode cX8_remember 21 = .ok (.iconst 1, 1) := by decide +kernel
theorem dX8_remember_22 : decode cX8_remember 22 = .ok (.iadd, 1) := by decide +kernel
theorem dX8_remember_23 : decode cX8_remember 23 = .ok (.bipush 8, 2) := by decide +kernel
theorem dX8_remember_25 : decode cX8_remember 25 = .ok (.irem, 1) := by decide +kernel
theorem dX8_remember_26 : decode cX8_remember 26 = .ok (.putfield 55, 3) := by decide +kernel
theorem dX8_remember_29 : decode cX8_remember 29 = .ok (.aload_n 0, 1) := by decide +kernel
theorem dX8_remember_30 : decode cX8_remember 30 = .ok (.aload_n 0, 1) := by decide +kernel
theorem dX8_remember_31 : decode cX8_remember 31 = .ok (.getfield 51, 3) := by decide +kernel
theorem dX8_remember_34 : decode cX8_remember 34 = .ok (.iconst 1, 1) := by decide +kernel
theorem dX8_remember_35 : decode cX8_remember 35 = .ok (.iadd, 1) := by decide +kernel
theorem dX8_remember_36 : decode cX8_remember 36 = .ok (.bipush 8, 2) := by decide +kernel
theorem dX8_remember_38 : decode cX8_remember 38 = .ok (.invokestatic 356, 3) := by decide +kernel
theorem dX8_remember_41 : decode cX8_remember 41 = .ok (.putfield 51, 3) := by decide +kernel
theorem dX8_remember_44 : decode cX8_remember 44 = .ok (.return_, 1) := by decide +kernel
theorem dX8_heatingTimeOnCopy_0 : decode cX8_heatingTimeOnCopy 0 = .ok (.aload_n 0, 1) := by decide +kernel
theorem dX8_heatingTimeOnCopy_1 : decode cX8_heatingTimeOnCopy 1 = .ok (.getfield 29, 3) := by decide +kernel
theorem dX8_heatingTimeOnCopy_4 : decode cX8_heatingTimeOnCopy 4 = .ok (.aload_n 0, 1) := by decide +kernel
theorem dX8_heatingTimeOnCopy_5 : decode cX8_heatingTimeOnCopy 5 = .ok (.getfield 12, 3) := by decide +kernel
theorem dX8_heatingTimeOnCopy_8 : decode cX8_heatingTimeOnCopy 8 = .ok (.getfield 117, 3) := by decide +kernel
theorem dX8_heatingTimeOnCopy_11 : decode cX8_heatingTimeOnCopy 11 = .ok (.invokevirtual 371, 3) := by decide +kernel
theorem dX8_heatingTimeOnCopy_14 : decode cX8_heatingTimeOnCopy 14 = .ok (.iconst 1, 1) := by decide +kernel
theorem dX8_heatingTimeOnCopy_15 : decode cX8_heatingTimeOnCopy 15 = .ok (.istore_n 2, 1) := by decide +kernel
theorem dX8_heatingTimeOnCopy_16 : decode cX8_heatingTimeOnCopy 16 = .ok (.iload_n 2, 1) := by decide +kernel
theorem dX8_heatingTimeOnCopy_17 : decode cX8_heatingTimeOnCopy 17 = .ok (.bipush 120, 2) := by decide +kernel
theorem dX8_heatingTimeOnCopy_19 : decode cX8_heatingTimeOnCopy 19 = .ok (.if_icmp .gt 32, 3) := by decide +kernel
theorem dX8_heatingTimeOnCopy_22 : decode cX8_heatingTimeOnCopy 22 = .ok (.aload_n 0, 1) := by decide +kernel
theorem dX8_heatingTimeOnCopy_23 : decode cX8_heatingTimeOnCopy 23 = .ok (.getfield 29, 3) := by decide +kernel
theorem dX8_heatingTimeOnCopy_26 : decode cX8_heatingTimeOnCopy 26 = .ok (.iload_n 1, 1) := by decide +kernel
theorem dX8_heatingTimeOnCopy_27 : decode cX8_heatingTimeOnCopy 27 = .ok (.invokevirtual 374, 3) := by decide +kernel
theorem dX8_heatingTimeOnCopy_30 : decode cX8_heatingTimeOnCopy 30 = .ok (.pop, 1) := by decide +kernel
theorem dX8_heatingTimeOnCopy_31 : decode cX8_heatingTimeOnCopy 31 = .ok (.aload_n 0, 1) := by decide +kernel
theorem dX8_heatingTimeOnCopy_32 : decode cX8_heatingTimeOnCopy 32 = .ok (.getfield 29, 3) := by decide +kernel
theorem dX8_heatingTimeOnCopy_35 : decode cX8_heatingTimeOnCopy 35 = .ok (.getfield 144, 3) := by decide +kernel
theorem dX8_heatingTimeOnCopy_38 : decode cX8_heatingTimeOnCopy 38 = .ok (.iload_n 1, 1) := by decide +kernel
theorem dX8_heatingTimeOnCopy_39 : decode cX8_heatingTimeOnCopy 39 = .ok (.baload, 1) := by decide +kernel
theorem dX8_heatingTimeOnCopy_40 : decode cX8_heatingTimeOnCopy 40 = .ok (.ifCond .eq 5, 3) := by decide +kernel
theorem dX8_heatingTimeOnCopy_43 : decode cX8_heatingTimeOnCopy 43 = .ok (.iload_n 2, 1) := by decide +kernel
theorem dX8_heatingTimeOnCopy_44 : decode cX8_heatingTimeOnCopy 44 = .ok (.ireturn, 1) := by decide +kernel
theorem dX8_heatingTimeOnCopy_45 : decode cX8_heatingTimeOnCopy 45 = .ok (.iinc 2 1, 3) := by decide +kernel
theorem dX8_heatingTimeOnCopy_48 : decode cX8_heatingTimeOnCopy 48 = .ok (.goto (-32), 3) := by decide +kernel
theorem dX8_heatingTimeOnCopy_51 : decode cX8_heatingTimeOnCopy 51 = .ok (.iconst (-1), 1) := by decide +kernel
theorem dX8_heatingTimeOnCopy_52 : decode cX8_heatingTimeOnCopy 52 = .ok (.ireturn, 1) := by decide +kernel
theorem dX8_waitOnCopy_0 : decode cX8_waitOnCopy 0 = .ok (.aload_n 0, 1) := by decide +kernel
theorem dX8_waitOnCopy_1 : decode cX8_waitOnCopy 1 = .ok (.getfield 29, 3) := by decide +kernel
theorem dX8_waitOnCopy_4 : decode cX8_waitOnCopy 4 = .ok (.aload_n 0, 1) := by decide +kernel
theorem dX8_waitOnCopy_5 : decode cX8_waitOnCopy 5 = .ok (.getfield 12, 3) := by decide +kernel
theorem dX8_waitOnCopy_8 : decode cX8_waitOnCopy 8 = .ok (.getfield 117, 3) := by decide +kernel
theorem dX8_waitOnCopy_11 : decode cX8_waitOnCopy 11 = .ok (.invokevirtual 371, 3) := by decide +kernel
theorem dX8_waitOnCopy_14 : decode cX8_waitOnCopy 14 = .ok (.iconst 0, 1) := by decide +kernel
theorem dX8_waitOnCopy_15 : decode cX8_waitOnCopy 15 = .ok (.istore_n 3, 1) := by decide +kernel
theorem dX8_waitOnCopy_16 : decode cX8_waitOnCopy 16 = .ok (.iload_n 3, 1) := by decide +kernel
theorem dX8_waitOnCopy_17 : decode cX8_waitOnCopy 17 = .ok (.bipush 120, 2) := by decide +kernel
theorem dX8_waitOnCopy_19 : decode cX8_waitOnCopy 19 = .ok (.if_icmp .gt 55, 3) := by decide +kernel
theorem dX8_waitOnCopy_22 : decode cX8_waitOnCopy 22 = .ok (.aload_n 0, 1) := by decide +kernel
theorem dX8_waitOnCopy_23 : decode cX8_waitOnCopy 23 = .ok (.getfield 29, 3) := by decide +kernel
theorem dX8_waitOnCopy_26 : decode cX8_waitOnCopy 26 = .ok (.iload_n 1, 1) := by decide +kernel
theorem dX8_waitOnCopy_27 : decode cX8_waitOnCopy 27 = .ok (.iload_n 2, 1) := by decide +kernel
theorem dX8_waitOnCopy_28 : decode cX8_waitOnCopy 28 = .ok (.invokevirtual 182, 3) := by decide +kernel
theorem dX8_waitOnCopy_31 : decode cX8_waitOnCopy 31 = .ok (.iconst (-1), 1) := by decide +kernel
theorem dX8_waitOnCopy_32 : decode cX8_waitOnCopy 32 = .ok (.if_icmp .eq 5, 3) := by decide +kernel
theorem dX8_waitOnCopy_35 : decode cX8_waitOnCopy 35 = .ok (.iload_n 3, 1) := by decide +kernel
theorem dX8_waitOnCopy_36 : decode cX8_waitOnCopy 36 = .ok (.ireturn, 1) := by decide +kernel
theorem dX8_waitOnCopy_37 : decode cX8_waitOnCopy 37 = .ok (.iconst 0, 1) := by decide +kernel
theorem dX8_waitOnCopy_38 : decode cX8_waitOnCopy 38 = .ok (.istore 4, 2) := by decide +kernel
theorem dX8_waitOnCopy_40 : decode cX8_waitOnCopy 40 = .ok (.iload 4, 2) := by decide +kernel
theorem dX8_waitOnCopy_42 : decode cX8_waitOnCopy 42 = .ok (.aload_n 0, 1) := by decide +kernel
theorem dX8_waitOnCopy_43 : decode cX8_waitOnCopy 43 = .ok (.getfield 29, 3) := by decide +kernel
theorem dX8_waitOnCopy_46 : decode cX8_waitOnCopy 46 = .ok (.getfield 120, 3) := by decide +kernel
theorem dX8_waitOnCopy_49 : decode cX8_waitOnCopy 49 = .ok (.if_icmp .ge 19, 3) := by decide +kernel
theorem dX8_waitOnCopy_52 : decode cX8_waitOnCopy 52 = .ok (.aload_n 0, 1) := by decide +kernel
theorem dX8_waitOnCopy_53 : decode cX8_waitOnCopy 53 = .ok (.getfield 29, 3) := by decide +kernel
theorem dX8_waitOnCopy_56 : decode cX8_waitOnCopy 56 = .ok (.iload 4, 2) := by decide +kernel
theorem dX8_waitOnCopy_58 : decode cX8_waitOnCopy 58 = .ok (.invokevirtual 374, 3) := by decide +kernel
theorem dX8_waitOnCopy_61 : decode cX8_waitOnCopy 61 = .ok (.pop, 1) := by decide +kernel
theorem dX8_waitOnCopy_62 : decode cX8_waitOnCopy 62 = .ok (.iinc 4 1, 3) := by decide +kernel
theorem dX8_waitOnCopy_65 : decode cX8_waitOnCopy 65 = .ok (.goto (-25), 3) := by decide +kernel
theorem dX8_waitOnCopy_68 : decode cX8_waitOnCopy 68 = .ok (.iinc 3 1, 3) := by decide +kernel
theorem dX8_waitOnCopy_71 : decode cX8_waitOnCopy 71 = .ok (.goto (-55), 3) := by decide +kernel
theorem dX8_waitOnCopy_74 : decode cX8_waitOnCopy 74 = .ok (.iconst (-1), 1) := by decide +kernel
theorem dX8_waitOnCopy_75 : decode cX8_waitOnCopy 75 = .ok (.ireturn, 1) := by decide +kernel
theorem dX8_allTemperatureBitsFit_0 : decode cX8_allTemperatureBitsFit 0 = .ok (.iconst 0, 1) := by decide +kernel
theorem dX8_allTemperatureBitsFit_1 : decode cX8_allTemperatureBitsFit 1 = .ok (.istore_n 1, 1) := by decide +kernel
theorem dX8_allTemperatureBitsFit_2 : decode cX8_allTemperatureBitsFit 2 = .ok (.iload_n 1, 1) := by decide +kernel
theorem dX8_allTemperatureBitsFit_3 : decode cX8_allTemperatureBitsFit 3 = .ok (.aload_n 0, 1) := by decide +kernel
theorem dX8_allTemperatureBitsFit_4 : decode cX8_allTemperatureBitsFit 4 = .ok (.getfield 12, 3) := by decide +kernel
theorem dX8_allTemperatureBitsFit_7 : decode cX8_allTemperatureBitsFit 7 = .ok (.getfield 117, 3) := by decide +kernel
theorem dX8_allTemperatureBitsFit_10 : decode cX8_allTemperatureBitsFit 10 = .ok (.getfield 120, 3) := by decide +kernel
theorem dX8_allTemperatureBitsFit_13 : decode cX8_allTemperatureBitsFit 13 = .ok (.if_icmp .ge 39, 3) := by decide +kernel
theorem dX8_allTemperatureBitsFit_16 : decode cX8_allTemperatureBitsFit 16 = .ok (.aload_n 0, 1) := by decide +kernel
theorem dX8_allTemperatureBitsFit_17 : decode cX8_allTemperatureBitsFit 17 = .ok (.getfield 12, 3) := by decide +kernel
theorem dX8_allTemperatureBitsFit_20 : decode cX8_allTemperatureBitsFit 20 = .ok (.getfield 117, 3) := by decide +kernel
theorem dX8_allTemperatureBitsFit_23 : decode cX8_allTemperatureBitsFit 23 = .ok (.getfield 134, 3) := by decide +kernel
theorem dX8_allTemperatureBitsFit_26 : decode cX8_allTemperatureBitsFit 26 = .ok (.iload_n 1, 1) := by decide +kernel
theorem dX8_allTemperatureBitsFit_27 : decode cX8_allTemperatureBitsFit 27 = .ok (.iaload, 1) := by decide +kernel
theorem dX8_allTemperatureBitsFit_28 : decode cX8_allTemperatureBitsFit 28 = .ok (.istore_n 2, 1) := by decide +kernel
theorem dX8_allTemperatureBitsFit_29 : decode cX8_allTemperatureBitsFit 29 = .ok (.iload_n 2, 1) := by decide +kernel
theorem dX8_allTemperatureBitsFit_30 : decode cX8_allTemperatureBitsFit 30 = .ok (.invokestatic 137, 3) := by decide +kernel
theorem dX8_allTemperatureBitsFit_33 : decode cX8_allTemperatureBitsFit 33 = .ok (.invokestatic 377, 3) := by decide +kernel
theorem dX8_allTemperatureBitsFit_36 : decode cX8_allTemperatureBitsFit 36 = .ok (.iload_n 2, 1) := by decide +kernel
theorem dX8_allTemperatureBitsFit_37 : decode cX8_allTemperatureBitsFit 37 = .ok (.invokestatic 77, 3) := by decide +kernel
theorem dX8_allTemperatureBitsFit_40 : decode cX8_allTemperatureBitsFit 40 = .ok (.fcmp .l, 1) := by decide +kernel
theorem dX8_allTemperatureBitsFit_41 : decode cX8_allTemperatureBitsFit 41 = .ok (.ifCond .eq 5, 3) := by decide +kernel
theorem dX8_allTemperatureBitsFit_44 : decode cX8_allTemperatureBitsFit 44 = .ok (.iconst 0, 1) := by decide +kernel
theorem dX8_allTemperatureBitsFit_45 : decode cX8_allTemperatureBitsFit 45 = .ok (.ireturn, 1) := by decide +kernel
theorem dX8_allTemperatureBitsFit_46 : decode cX8_allTemperatureBitsFit 46 = .ok (.iinc 1 1, 3) := by decide +kernel
theorem dX8_allTemperatureBitsFit_49 : decode cX8_allTemperatureBitsFit 49 = .ok (.goto (-47), 3) := by decide +kernel
theorem dX8_allTemperatureBitsFit_52 : decode cX8_allTemperatureBitsFit 52 = .ok (.iconst 1, 1) := by decide +kernel
theorem dX8_allTemperatureBitsFit_53 : decode cX8_allTemperatureBitsFit 53 = .ok (.ireturn, 1) := by decide +kernel
theorem dX8_allHeatingTimesAgree_0 : decode cX8_allHeatingTimesAgree 0 = .ok (.iconst 0, 1) := by decide +kernel
theorem dX8_allHeatingTimesAgree_1 : decode cX8_allHeatingTimesAgree 1 = .ok (.istore_n 1, 1) := by decide +kernel
theorem dX8_allHeatingTimesAgree_2 : decode cX8_allHeatingTimesAgree 2 = .ok (.iload_n 1, 1) := by decide +kernel
theorem dX8_allHeatingTimesAgree_3 : decode cX8_allHeatingTimesAgree 3 = .ok (.aload_n 0, 1) := by decide +kernel
theorem dX8_allHeatingTimesAgree_4 : decode cX8_allHeatingTimesAgree 4 = .ok (.getfield 12, 3) := by decide +kernel
theorem dX8_allHeatingTimesAgree_7 : decode cX8_allHeatingTimesAgree 7 = .ok (.getfield 117, 3) := by decide +kernel
theorem dX8_allHeatingTimesAgree_10 : decode cX8_allHeatingTimesAgree 10 = .ok (.getfield 120, 3) := by decide +kernel
theorem dX8_allHeatingTimesAgree_13 : decode cX8_allHeatingTimesAgree 13 = .ok (.if_icmp .ge 30, 3) := by decide +kernel
theorem dX8_allHeatingTimesAgree_16 : decode cX8_allHeatingTimesAgree 16 = .ok (.aload_n 0, 1) := by decide +kernel
theorem dX8_allHeatingTimesAgree_17 : decode cX8_allHeatingTimesAgree 17 = .ok (.getfield 12, 3) := by decide +kernel
theorem dX8_allHeatingTimesAgree_20 : decode cX8_allHeatingTimesAgree 20 = .ok (.getfield 117, 3) := by decide +kernel
theorem dX8_allHeatingTimesAgree_23 : decode cX8_allHeatingTimesAgree 23 = .ok (.iload_n 1, 1) := by decide +kernel
theorem dX8_allHeatingTimesAgree_24 : decode cX8_allHeatingTimesAgree 24 = .ok (.invokevirtual 148, 3) := by decide +kernel
theorem dX8_allHeatingTimesAgree_27 : decode cX8_allHeatingTimesAgree 27 = .ok (.aload_n 0, 1) := by decide +kernel
theorem dX8_allHeatingTimesAgree_28 : decode cX8_allHeatingTimesAgree 28 = .ok (.iload_n 1, 1) := by decide +kernel
theorem dX8_allHeatingTimesAgree_29 : decode cX8_allHeatingTimesAgree 29 = .ok (.invokevirtual 154, 3) := by decide +kernel
theorem dX8_allHeatingTimesAgree_32 : decode cX8_allHeatingTimesAgree 32 = .ok (.if_icmp .eq 5, 3) := by decide +kernel
theorem dX8_allHeatingTimesAgree_35 : decode cX8_allHeatingTimesAgree 35 = .ok (.iconst 0, 1) := by decide +kernel
theorem dX8_allHeatingTimesAgree_36 : decode cX8_allHeatingTimesAgree 36 = .ok (.ireturn, 1) := by decide +kernel
theorem dX8_allHeatingTimesAgree_37 : decode cX8_allHeatingTimesAgree 37 = .ok (.iinc 1 1, 3) := by decide +kernel
theorem dX8_allHeatingTimesAgree_40 : decode cX8_allHeatingTimesAgree 40 = .ok (.goto (-38), 3) := by decide +kernel
theorem dX8_allHeatingTimesAgree_43 : decode cX8_allHeatingTimesAgree 43 = .ok (.iconst 1, 1) := by decide +kernel
theorem dX8_allHeatingTimesAgree_44 : decode cX8_allHeatingTimesAgree 44 = .ok (.ireturn, 1) := by decide +kernel
theorem dX8_requireAllowed_0 : decode cX8_requireAllowed 0 = .ok (.aload_n 0, 1) := by decide +kernel
theorem dX8_requireAllowed_1 : decode cX8_requireAllowed 1 = .ok (.getstatic 380, 3) := by decide +kernel
theorem dX8_requireAllowed_4 : decode cX8_requireAllowed 4 = .ok (.if_acmp .ne 14, 3) := by decide +kernel
theorem dX8_requireAllowed_7 : decode cX8_requireAllowed 7 = .ok (.new 226, 3) := by decide +kernel
theorem dX8_requireAllowed_10 : decode cX8_requireAllowed 10 = .ok (.dup, 1) := by decide +kernel
theorem dX8_requireAllowed_11 : decode cX8_requireAllowed 11 = .ok (.ldc_w 383, 3) := by decide +kernel
theorem dX8_requireAllowed_14 : decode cX8_requireAllowed 14 = .ok (.invokespecial 230, 3) := by decide +kernel
theorem dX8_requireAllowed_17 : decode cX8_requireAllowed 17 = .ok (.athrow, 1) := by decide +kernel
theorem dX8_requireAllowed_18 : decode cX8_requireAllowed 18 = .ok (.aload_n 0, 1) := by decide +kernel
theorem dX8_requireAllowed_19 : decode cX8_requireAllowed 19 = .ok (.getstatic 385, 3) := by decide +kernel
theorem dX8_requireAllowed_22 : decode cX8_requireAllowed 22 = .ok (.if_acmp .ne 14, 3) := by decide +kernel
theorem dX8_requireAllowed_25 : decode cX8_requireAllowed 25 = .ok (.new 306, 3) := by decide +kernel
theorem dX8_requireAllowed_28 : decode cX8_requireAllowed 28 = .ok (.dup, 1) := by decide +kernel
theorem dX8_requireAllowed_29 : decode cX8_requireAllowed 29 = .ok (.ldc_w 388, 3) := by decide +kernel
theorem dX8_requireAllowed_32 : decode cX8_requireAllowed 32 = .ok (.invokespecial 310, 3) := by decide +kernel
theorem dX8_requireAllowed_35 : decode cX8_requireAllowed 35 = .ok (.athrow, 1) := by decide +kernel
theorem dX8_requireAllowed_36 : decode cX8_requireAllowed 36 = .ok (.aload_n 0, 1) := by decide +kernel
theorem dX8_requireAllowed_37 : decode cX8_requireAllowed 37 = .ok (.getstatic 390, 3) := by decide +kernel
theorem dX8_requireAllowed_40 : decode cX8_requireAllowed 40 = .ok (.if_acmp .ne 14, 3) := by decide +kernel
theorem dX8_requireAllowed_43 : decode cX8_requireAllowed 43 = .ok (.new 313, 3) := by decide +kernel
theorem dX8_requireAllowed_46 : decode cX8_requireAllowed 46 = .ok (.dup, 1) := by decide +kernel
theorem dX8_requireAllowed_47 : decode cX8_requireAllowed 47 = .ok (.ldc_w 393, 3) := by decide +kernel
theorem dX8_requireAllowed_50 : decode cX8_requireAllowed 50 = .ok (.invokespecial 317, 3) := by decide +kernel
theorem dX8_requireAllowed_53 : decode cX8_requireAllowed 53 = .ok (.athrow, 1) := by decide +kernel
theorem dX8_requireAllowed_54 : decode cX8_requireAllowed 54 = .ok (.aload_n 0, 1) := by decide +kernel
theorem dX8_requireAllowed_55 : decode cX8_requireAllowed 55 = .ok (.getstatic 395, 3) := by decide +kernel
theorem dX8_requireAllowed_58 : decode cX8_requireAllowed 58 = .ok (.if_acmp .ne 14, 3) := by decide +kernel
theorem dX8_requireAllowed_61 : decode cX8_requireAllowed 61 = .ok (.new 398, 3) := by decide +kernel
theorem dX8_requireAllowed_64 : decode cX8_requireAllowed 64 = .ok (.dup, 1) := by decide +kernel
theorem dX8_requireAllowed_65 : decode cX8_requireAllowed 65 = .ok (.ldc_w 400, 3) := by decide +kernel
theorem dX8_requireAllowed_68 : decode cX8_requireAllowed 68 = .ok (.invokespecial 402, 3) := by decide +kernel
theorem dX8_requireAllowed_71 : decode cX8_requireAllowed 71 = .ok (.athrow, 1) := by decide +kernel
theorem dX8_requireAllowed_72 : decode cX8_requireAllowed 72 = .ok (.return_, 1) := by decide +kernel
theorem dX8_requireKettle_0 : decode cX8_requireKettle 0 = .ok (.aload_n 0, 1) := by decide +kernel
theorem dX8_requireKettle_1 : decode cX8_requireKettle 1 = .ok (.getfield 12, 3) := by decide +kernel
theorem dX8_requireKettle_4 : decode cX8_requireKettle 4 = .ok (.getfield 117, 3) := by decide +kernel
theorem dX8_requireKettle_7 : decode cX8_requireKettle 7 = .ok (.iload_n 1, 1) := by decide +kernel
theorem dX8_requireKettle_8 : decode cX8_requireKettle 8 = .ok (.invokevirtual 403, 3) := by decide +kernel
theorem dX8_requireKettle_11 : decode cX8_requireKettle 11 = .ok (.ifCond .ne 14, 3) := by decide +kernel
theorem dX8_requireKettle_14 : decode cX8_requireKettle 14 = .ok (.new 226, 3) := by decide +kernel
theorem dX8_requireKettle_17 : decode cX8_requireKettle 17 = .ok (.dup, 1) := by decide +kernel
theorem dX8_requireKettle_18 : decode cX8_requireKettle 18 = .ok (.ldc_w 383, 3) := by decide +kernel
theorem dX8_requireKettle_21 : decode cX8_requireKettle 21 = .ok (.invokespecial 230, 3) := by decide +kernel
theorem dX8_requireKettle_24 : decode cX8_requireKettle 24 = .ok (.athrow, 1) := by decide +kernel
theorem dX8_requireKettle_25 : decode cX8_requireKettle 25 = .ok (.return_, 1) := by decide +kernel
theorem dX8_requireNights_0 : decode cX8_requireNights 0 = .ok (.iload_n 1, 1) := by decide +kernel
theorem dX8_requireNights_1 : decode cX8_requireNights 1 = .ok (.iconst 1, 1) := by decide +kernel
theorem dX8_requireNights_2 : decode cX8_requireNights 2 = .ok (.bipush 14, 2) := by decide +kernel
theorem dX8_requireNights_4 : decode cX8_requireNights 4 = .ok (.invokestatic 407, 3) := by decide +kernel
theorem dX8_requireNights_7 : decode cX8_requireNights 7 = .ok (.ifCond .ne 14, 3) := by decide +kernel
theorem dX8_requireNights_10 : decode cX8_requireNights 10 = .ok (.new 306, 3) := by decide +kernel
theorem dX8_requireNights_13 : decode cX8_requireNights 13 = .ok (.dup, 1) := by decide +kernel
theorem dX8_requireNights_14 : decode cX8_requireNights 14 = .ok (.ldc_w 411, 3) := by decide +kernel
theorem dX8_requireNights_17 : decode cX8_requireNights 17 = .ok (.invokespecial 310, 3) := by decide +kernel
theorem dX8_requireNights_20 : decode cX8_requireNights 20 = .ok (.athrow, 1) := by decide +kernel
theorem dX8_requireNights_21 : decode cX8_requireNights 21 = .ok (.iload_n 1, 1) := by decide +kernel
theorem dX8_requireNights_22 : decode cX8_requireNights 22 = .ok (.aload_n 0, 1) := by decide +kernel
theorem dX8_requireNights_23 : decode cX8_requireNights 23 = .ok (.getfield 12, 3) := by decide +kernel
theorem dX8_requireNights_26 : decode cX8_requireNights 26 = .ok (.getfield 216, 3) := by decide +kernel
theorem dX8_requireNights_29 : decode cX8_requireNights 29 = .ok (.getfield 225, 3) := by decide +kernel
theorem dX8_requireNights_32 : decode cX8_requireNights 32 = .ok (.if_icmp .le 14, 3) := by decide +kernel
theorem dX8_requireNights_35 : decode cX8_requireNights 35 = .ok (.new 398, 3) := by decide +kernel
theorem dX8_requireNights_38 : decode cX8_requireNights 38 = .ok (.dup, 1) := by decide +kernel
theorem dX8_requireNights_39 : decode cX8_requireNights 39 = .ok (.ldc_w 413, 3) := by decide +kernel
theorem dX8_requireNights_42 : decode cX8_requireNights 42 = .ok (.invokespecial 402, 3) := by decide +kernel
theorem dX8_requireNights_45 : decode cX8_requireNights 45 = .ok (.athrow, 1) := by decide +kernel
theorem dX8_requireNights_46 : decode cX8_requireNights 46 = .ok (.return_, 1) := by decide +kernel
theorem dX8_requireFound_0 : decode cX8_requireFound 0 = .ok (.iload_n 0, 1) := by decide +kernel
theorem dX8_requireFound_1 : decode cX8_requireFound 1 = .ok (.iconst (-1), 1) := by decide +kernel
theorem dX8_requireFound_2 : decode cX8_requireFound 2 = .ok (.if_icmp .ne 14, 3) := by decide +kernel
theorem dX8_requireFound_5 : decode cX8_requireFound 5 = .ok (.new 398, 3) := by decide +kernel
theorem dX8_requireFound_8 : decode cX8_requireFound 8 = .ok (.dup, 1) := by decide +kernel
theorem dX8_requireFound_9 : decode cX8_requireFound 9 = .ok (.ldc_w 415, 3) := by decide +kernel
theorem dX8_requireFound_12 : decode cX8_requireFound 12 = .ok (.invokespecial 402, 3) := by decide +kernel
theorem dX8_requireFound_15 : decode cX8_requireFound 15 = .ok (.athrow, 1) := by decide +kernel
theorem dX8_requireFound_16 : decode cX8_requireFound 16 = .ok (.iload_n 0, 1) := by decide +kernel
theorem dX8_requireFound_17 : decode cX8_requireFound 17 = .ok (.ireturn, 1) := by decide +kernel
theorem dX8_isWithin_0 : decode cX8_isWithin 0 = .ok (.iload_n 0, 1) := by decide +kernel
theorem dX8_isWithin_1 : decode cX8_isWithin 1 = .ok (.iload_n 1, 1) := by decide +kernel
theorem dX8_isWithin_2 : decode cX8_isWithin 2 = .ok (.if_icmp .lt 12, 3) := by decide +kernel
theorem dX8_isWithin_5 : decode cX8_isWithin 5 = .ok (.iload_n 0, 1) := by decide +kernel
theorem dX8_isWithin_6 : decode cX8_isWithin 6 = .ok (.iload_n 2, 1) := by decide +kernel
theorem dX8_isWithin_7 : decode cX8_isWithin 7 = .ok (.if_icmp .gt 7, 3) := by decide +kernel
theorem dX8_isWithin_10 : decode cX8_isWithin 10 = .ok (.iconst 1, 1) := by decide +kernel
theorem dX8_isWithin_11 : decode cX8_isWithin 11 = .ok (.goto 4, 3) := by decide +kernel
theorem dX8_isWithin_14 : decode cX8_isWithin 14 = .ok (.iconst 0, 1) := by decide +kernel
theorem dX8_isWithin_15 : decode cX8_isWithin 15 = .ok (.ireturn, 1) := by decide +kernel
theorem dX8_eighths_0 : decode cX8_eighths 0 = .ok (.iload_n 0, 1) := by decide +kernel
theorem dX8_eighths_1 : decode cX8_eighths 1 = .ok (.i2f, 1) := by decide +kernel
theorem dX8_eighths_2 : decode cX8_eighths 2 = .ok (.ldc_w 417, 3) := by decide +kernel
theorem dX8_eighths_5 : decode cX8_eighths 5 = .ok (.fmul, 1) := by decide +kernel
theorem dX8_eighths_6 : decode cX8_eighths 6 = .ok (.freturn, 1) := by decide +kernel
theorem dX8_halves_0 : decode cX8_halves 0 = .ok (.iload_n 0, 1) := by decide +kernel
theorem dX8_halves_1 : decode cX8_halves 1 = .ok (.i2f, 1) := by decide +kernel
theorem dX8_halves_2 : decode cX8_halves 2 = .ok (.ldc_w 418, 3) := by decide +kernel
theorem dX8_halves_5 : decode cX8_halves 5 = .ok (.fmul, 1) := by decide +kernel
theorem dX8_halves_6 : decode cX8_halves 6 = .ok (.freturn, 1) := by decide +kernel
theorem dX8_bitsOfHalves_0 : decode cX8_bitsOfHalves 0 = .ok (.iconst 0, 1) := by decide +kernel
theorem dX8_bitsOfHalves_1 : decode cX8_bitsOfHalves 1 = .ok (.istore_n 1, 1) := by decide +kernel
theorem dX8_bitsOfHalves_2 : decode cX8_bitsOfHalves 2 = .ok (.iload_n 1, 1) := by decide +kernel
theorem dX8_bitsOfHalves_3 : decode cX8_bitsOfHalves 3 = .ok (.bipush 22, 2) := by decide +kernel
theorem dX8_bitsOfHalves_5 : decode cX8_bitsOfHalves 5 = .ok (.if_icmp .ge 17, 3) := by decide +kernel
theorem dX8_bitsOfHalves_8 : decode cX8_bitsOfHalves 8 = .ok (.iload_n 0, 1) := by decide +kernel
theorem dX8_bitsOfHalves_9 : decode cX8_bitsOfHalves 9 = .ok (.iload_n 1, 1) := by decide +kernel
theorem dX8_bitsOfHalves_10 : decode cX8_bitsOfHalves 10 = .ok (.iconst 1, 1) := by decide +kernel
theorem dX8_bitsOfHalves_11 : decode cX8_bitsOfHalves 11 = .ok (.iadd, 1) := by decide +kernel
theorem dX8_bitsOfHalves_12 : decode cX8_bitsOfHalves 12 = .ok (.ishr, 1) := by decide +kernel
theorem dX8_bitsOfHalves_13 : decode cX8_bitsOfHalves 13 = .ok (.ifCond .eq 9, 3) := by decide +kernel
theorem dX8_bitsOfHalves_16 : decode cX8_bitsOfHalves 16 = .ok (.iinc 1 1, 3) := by decide +kernel
theorem dX8_bitsOfHalves_19 : decode cX8_bitsOfHalves 19 = .ok (.goto (-17), 3) := by decide +kernel
theorem dX8_bitsOfHalves_22 : decode cX8_bitsOfHalves 22 = .ok (.iload_n 1, 1) := by decide +kernel
theorem dX8_bitsOfHalves_23 : decode cX8_bitsOfHalves 23 = .ok (.iconst 1, 1) := by decide +kernel
theorem dX8_bitsOfHalves_24 : decode cX8_bitsOfHalves 24 = .ok (.isub, 1) := by decide +kernel
theorem dX8_bitsOfHalves_25 : decode cX8_bitsOfHalves 25 = .ok (.bipush 127, 2) := by decide +kernel
theorem dX8_bitsOfHalves_27 : decode cX8_bitsOfHalves 27 = .ok (.iadd, 1) := by decide +kernel
theorem dX8_bitsOfHalves_28 : decode cX8_bitsOfHalves 28 = .ok (.istore_n 2, 1) := by decide +kernel
theorem dX8_bitsOfHalves_29 : decode cX8_bitsOfHalves 29 = .ok (.iload_n 0, 1) := by decide +kernel
theorem dX8_bitsOfHalves_30 : decode cX8_bitsOfHalves 30 = .ok (.iconst 1, 1) := by decide +kernel
theorem dX8_bitsOfHalves_31 : decode cX8_bitsOfHalves 31 = .ok (.iload_n 1, 1) := by decide +kernel
theorem dX8_bitsOfHalves_32 : decode cX8_bitsOfHalves 32 = .ok (.ishl, 1) := by decide +kernel
theorem dX8_bitsOfHalves_33 : decode cX8_bitsOfHalves 33 = .ok (.isub, 1) := by decide +kernel
theorem dX8_bitsOfHalves_34 : decode cX8_bitsOfHalves 34 = .ok (.bipush 23, 2) := by decide +kernel
theorem dX8_bitsOfHalves_36 : decode cX8_bitsOfHalves 36 = .ok (.iload_n 1, 1) := by decide +kernel
theorem dX8_bitsOfHalves_37 : decode cX8_bitsOfHalves 37 = .ok (.isub, 1) := by decide +kernel
theorem dX8_bitsOfHalves_38 : decode cX8_bitsOfHalves 38 = .ok (.ishl, 1) := by decide +kernel
theorem dX8_bitsOfHalves_39 : decode cX8_bitsOfHalves 39 = .ok (.istore_n 3, 1) := by decide +kernel
theorem dX8_bitsOfHalves_40 : decode cX8_bitsOfHalves 40 = .ok (.iload_n 2, 1) := by decide +kernel
theorem dX8_bitsOfHalves_41 : decode cX8_bitsOfHalves 41 = .ok (.bipush 23, 2) := by decide +kernel
theorem dX8_bitsOfHalves_43 : decode cX8_bitsOfHalves 43 = .ok (.ishl, 1) := by decide +kernel
theorem dX8_bitsOfHalves_44 : decode cX8_bitsOfHalves 44 = .ok (.iload_n 3, 1) := by decide +kernel
theorem dX8_bitsOfHalves_45 : decode cX8_bitsOfHalves 45 = .ok (.ior, 1) := by decide +kernel
theorem dX8_bitsOfHalves_46 : decode cX8_bitsOfHalves 46 = .ok (.ireturn, 1) := by decide +kernel
theorem dX8_floatOfBits_0 : decode cX8_floatOfBits 0 = .ok (.iload_n 0, 1) := by decide +kernel
theorem dX8_floatOfBits_1 : decode cX8_floatOfBits 1 = .ok (.ldc_w 419, 3) := by decide +kernel
theorem dX8_floatOfBits_4 : decode cX8_floatOfBits 4 = .ok (.iand, 1) := by decide +kernel
theorem dX8_floatOfBits_5 : decode cX8_floatOfBits 5 = .ok (.ldc_w 420, 3) := by decide +kernel
theorem dX8_floatOfBits_8 : decode cX8_floatOfBits 8 = .ok (.ior, 1) := by decide +kernel
theorem dX8_floatOfBits_9 : decode cX8_floatOfBits 9 = .ok (.i2f, 1) := by decide +kernel
theorem dX8_floatOfBits_10 : decode cX8_floatOfBits 10 = .ok (.fstore_n 1, 1) := by decide +kernel
theorem dX8_floatOfBits_11 : decode cX8_floatOfBits 11 = .ok (.iload_n 0, 1) := by decide +kernel
theorem dX8_floatOfBits_12 : decode cX8_floatOfBits 12 = .ok (.bipush 23, 2) := by decide +kernel
theorem dX8_floatOfBits_14 : decode cX8_floatOfBits 14 = .ok (.ishr, 1) := by decide +kernel
theorem dX8_floatOfBits_15 : decode cX8_floatOfBits 15 = .ok (.bipush 127, 2) := by decide +kernel
theorem dX8_floatOfBits_17 : decode cX8_floatOfBits 17 = .ok (.isub, 1) := by decide +kernel
theorem dX8_floatOfBits_18 : decode cX8_floatOfBits 18 = .ok (.istore_n 2, 1) := by decide +kernel
theorem dX8_floatOfBits_19 : decode cX8_floatOfBits 19 = .ok (.bipush 23, 2) := by decide +kernel
theorem dX8_floatOfBits_21 : decode cX8_floatOfBits 21 = .ok (.istore_n 3, 1) := by decide +kernel
theorem dX8_floatOfBits_22 : decode cX8_floatOfBits 22 = .ok (.iload_n 3, 1) := by decide +kernel
theorem dX8_floatOfBits_23 : decode cX8_floatOfBits 23 = .ok (.iload_n 2, 1) := by decide +kernel
theorem dX8_floatOfBits_24 : decode cX8_floatOfBits 24 = .ok (.if_icmp .le 19, 3) := by decide +kernel
theorem dX8_floatOfBits_27 : decode cX8_floatOfBits 27 = .ok (.iload_n 3, 1) := by decide +kernel
theorem dX8_floatOfBits_28 : decode cX8_floatOfBits 28 = .ok (.ifCond .le 15, 3) := by decide +kernel
theorem dX8_floatOfBits_31 : decode cX8_floatOfBits 31 = .ok (.fload_n 1, 1) := by decide +kernel
theorem dX8_floatOfBits_32 : decode cX8_floatOfBits 32 = .ok (.ldc_w 418, 3) := by decide +kernel
theorem dX8_floatOfBits_35 : decode cX8_floatOfBits 35 = .ok (.fmul, 1) := by decide +kernel
theorem dX8_floatOfBits_36 : decode cX8_floatOfBits 36 = .ok (.fstore_n 1, 1) := by decide +kernel
theorem dX8_floatOfBits_37 : decode cX8_floatOfBits 37 = .ok (.iinc 3 (-1), 3) := by decide +kernel
theorem dX8_floatOfBits_40 : decode cX8_floatOfBits 40 = .ok (.goto (-18), 3) := by decide +kernel
theorem dX8_floatOfBits_43 : decode cX8_floatOfBits 43 = .ok (.fload_n 1, 1) := by decide +kernel
theorem dX8_floatOfBits_44 : decode cX8_floatOfBits 44 = .ok (.freturn, 1) := by decide +kernel
