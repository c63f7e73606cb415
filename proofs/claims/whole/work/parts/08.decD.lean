theorem dX12_stopsAsking_108 : decode cX12_stopsAsking 108 = .ok (.ireturn, 1) := by decide +kernel
theorem dX12_stopsSettling_0 : decode cX12_stopsSettling 0 = .ok (.aload_n 0, 1) := by decide +kernel
theorem dX12_stopsSettling_1 : decode cX12_stopsSettling 1 = .ok (.aload_n 1, 1) := by decide +kernel
theorem dX12_stopsSettling_2 : decode cX12_stopsSettling 2 = .ok (.invokevirtual 363, 3) := by decide +kernel
theorem dX12_stopsSettling_5 : decode cX12_stopsSettling 5 = .ok (.aload_n 0, 1) := by decide +kernel
theorem dX12_stopsSettling_6 : decode cX12_stopsSettling 6 = .ok (.aload_n 1, 1) := by decide +kernel
theorem dX12_stopsSettling_7 : decode cX12_stopsSettling 7 = .ok (.invokevirtual 367, 3) := by decide +kernel
theorem dX12_stopsSettling_10 : decode cX12_stopsSettling 10 = .ok (.istore_n 2, 1) := by decide +kernel
theorem dX12_stopsSettling_11 : decode cX12_stopsSettling 11 = .ok (.iload_n 2, 1) := by decide +kernel
theorem dX12_stopsSettling_12 : decode cX12_stopsSettling 12 = .ok (.iconst (-1), 1) := by decide +kernel
theorem dX12_stopsSettling_13 : decode cX12_stopsSettling 13 = .ok (.if_icmp .ne 7, 3) := by decide +kernel
theorem dX12_stopsSettling_16 : decode cX12_stopsSettling 16 = .ok (.iconst 3, 1) := by decide +kernel
theorem dX12_stopsSettling_17 : decode cX12_stopsSettling 17 = .ok (.goto 17, 3) := by decide +kernel
theorem dX12_stopsSettling_20 : decode cX12_stopsSettling 20 = .ok (.iload_n 2, 1) := by decide +kernel
theorem dX12_stopsSettling_21 : decode cX12_stopsSettling 21 = .ok (.aload_n 0, 1) := by decide +kernel
theorem dX12_stopsSettling_22 : decode cX12_stopsSettling 22 = .ok (.aload_n 1, 1) := by decide +kernel
theorem dX12_stopsSettling_23 : decode cX12_stopsSettling 23 = .ok (.invokevirtual 370, 3) := by decide +kernel
theorem dX12_stopsSettling_26 : decode cX12_stopsSettling 26 = .ok (.if_icmp .ne 7, 3) := by decide +kernel
theorem dX12_stopsSettling_29 : decode cX12_stopsSettling 29 = .ok (.iconst 2, 1) := by decide +kernel
theorem dX12_stopsSettling_30 : decode cX12_stopsSettling 30 = .ok (.goto 4, 3) := by decide +kernel
theorem dX12_stopsSettling_33 : decode cX12_stopsSettling 33 = .ok (.iconst (-1), 1) := by decide +kernel
theorem dX12_stopsSettling_34 : decode cX12_stopsSettling 34 = .ok (.ireturn, 1) := by decide +kernel
theorem dX12_does_0 : decode cX12_does 0 = .ok (.iload_n 2, 1) := by decide +kernel
theorem dX12_does_1 : decode cX12_does 1 = .ok (.tableswitch 220 0 5 #[39, 76, 97, 110, 175, 202], 39) := by decide +kernel
theorem dX12_does_40 : decode cX12_does 40 = .ok (.aload_n 0, 1) := by decide +kernel
theorem dX12_does_41 : decode cX12_does 41 = .ok (.iconst 0, 1) := by decide +kernel
theorem dX12_does_42 : decode cX12_does 42 = .ok (.putfield 373, 3) := by decide +kernel
theorem dX12_does_45 : decode cX12_does 45 = .ok (.iconst 0, 1) := by decide +kernel
theorem dX12_does_46 : decode cX12_does 46 = .ok (.istore 6, 2) := by decide +kernel
theorem dX12_does_48 : decode cX12_does 48 = .ok (.iload 6, 2) := by decide +kernel
theorem dX12_does_50 : decode cX12_does 50 = .ok (.iload_n 3, 1) := by decide +kernel
theorem dX12_does_51 : decode cX12_does 51 = .ok (.if_icmp .ge 23, 3) := by decide +kernel
theorem dX12_does_54 : decode cX12_does 54 = .ok (.aload_n 0, 1) := by decide +kernel
theorem dX12_does_55 : decode cX12_does 55 = .ok (.dup, 1) := by decide +kernel
theorem dX12_does_56 : decode cX12_does 56 = .ok (.getfield 373, 3) := by decide +kernel
theorem dX12_does_59 : decode cX12_does 59 = .ok (.aload_n 0, 1) := by decide +kernel
theorem dX12_does_60 : decode cX12_does 60 = .ok (.aload_n 1, 1) := by decide +kernel
theorem dX12_does_61 : decode cX12_does 61 = .ok (.invokevirtual 376, 3) := by decide +kernel
theorem dX12_does_64 : decode cX12_does 64 = .ok (.iadd, 1) := by decide +kernel
theorem dX12_does_65 : decode cX12_does 65 = .ok (.putfield 373, 3) := by decide +kernel
theorem dX12_does_68 : decode cX12_does 68 = .ok (.iinc 6 1, 3) := by decide +kernel
theorem dX12_does_71 : decode cX12_does 71 = .ok (.goto (-23), 3) := by decide +kernel
theorem dX12_does_74 : decode cX12_does 74 = .ok (.goto 152, 3) := by decide +kernel
theorem dX12_does_77 : decode cX12_does 77 = .ok (.aload_n 0, 1) := by decide +kernel
theorem dX12_does_78 : decode cX12_does 78 = .ok (.aload_n 1, 1) := by decide +kernel
theorem dX12_does_79 : decode cX12_does 79 = .ok (.bipush 21, 2) := by decide +kernel
theorem dX12_does_81 : decode cX12_does 81 = .ok (.iload_n 3, 1) := by decide +kernel
theorem dX12_does_82 : decode cX12_does 82 = .ok (.iadd, 1) := by decide +kernel
theorem dX12_does_83 : decode cX12_does 83 = .ok (.iaload, 1) := by decide +kernel
theorem dX12_does_84 : decode cX12_does 84 = .ok (.putfield 373, 3) := by decide +kernel
theorem dX12_does_87 : decode cX12_does 87 = .ok (.aload_n 1, 1) := by decide +kernel
theorem dX12_does_88 : decode cX12_does 88 = .ok (.bipush 21, 2) := by decide +kernel
theorem dX12_does_90 : decode cX12_does 90 = .ok (.iload_n 3, 1) := by decide +kernel
theorem dX12_does_91 : decode cX12_does 91 = .ok (.iadd, 1) := by decide +kernel
theorem dX12_does_92 : decode cX12_does 92 = .ok (.iload 4, 2) := by decide +kernel
theorem dX12_does_94 : decode cX12_does 94 = .ok (.iastore, 1) := by decide +kernel
theorem dX12_does_95 : decode cX12_does 95 = .ok (.goto 131, 3) := by decide +kernel
theorem dX12_does_98 : decode cX12_does 98 = .ok (.aload_n 0, 1) := by decide +kernel
theorem dX12_does_99 : decode cX12_does 99 = .ok (.aload_n 1, 1) := by decide +kernel
theorem dX12_does_100 : decode cX12_does 100 = .ok (.iload_n 3, 1) := by decide +kernel
theorem dX12_does_101 : decode cX12_does 101 = .ok (.iload 4, 2) := by decide +kernel
theorem dX12_does_103 : decode cX12_does 103 = .ok (.iload 5, 2) := by decide +kernel
theorem dX12_does_105 : decode cX12_does 105 = .ok (.invokevirtual 379, 3) := by decide +kernel
theorem dX12_does_108 : decode cX12_does 108 = .ok (.goto 118, 3) := by decide +kernel
theorem dX12_does_111 : decode cX12_does 111 = .ok (.iconst 5, 1) := by decide +kernel
theorem dX12_does_112 : decode cX12_does 112 = .ok (.aload_n 1, 1) := by decide +kernel
theorem dX12_does_113 : decode cX12_does 113 = .ok (.aload_n 0, 1) := by decide +kernel
theorem dX12_does_114 : decode cX12_does 114 = .ok (.getfield 353, 3) := by decide +kernel
theorem dX12_does_117 : decode cX12_does 117 = .ok (.iload_n 3, 1) := by decide +kernel
theorem dX12_does_118 : decode cX12_does 118 = .ok (.invokestatic 356, 3) := by decide +kernel
theorem dX12_does_121 : decode cX12_does 121 = .ok (.imul, 1) := by decide +kernel
theorem dX12_does_122 : decode cX12_does 122 = .ok (.istore 6, 2) := by decide +kernel
theorem dX12_does_124 : decode cX12_does 124 = .ok (.iload 6, 2) := by decide +kernel
theorem dX12_does_126 : decode cX12_does 126 = .ok (.iconst 5, 1) := by decide +kernel
theorem dX12_does_127 : decode cX12_does 127 = .ok (.aload_n 1, 1) := by decide +kernel
theorem dX12_does_128 : decode cX12_does 128 = .ok (.bipush 44, 2) := by decide +kernel
theorem dX12_does_130 : decode cX12_does 130 = .ok (.iaload, 1) := by decide +kernel
theorem dX12_does_131 : decode cX12_does 131 = .ok (.iconst 1, 1) := by decide +kernel
theorem dX12_does_132 : decode cX12_does 132 = .ok (.isub, 1) := by decide +kernel
theorem dX12_does_133 : decode cX12_does 133 = .ok (.imul, 1) := by decide +kernel
theorem dX12_does_134 : decode cX12_does 134 = .ok (.if_icmp .ge 23, 3) := by decide +kernel
theorem dX12_does_137 : decode cX12_does 137 = .ok (.aload_n 1, 1) := by decide +kernel
theorem dX12_does_138 : decode cX12_does 138 = .ok (.bipush 45, 2) := by decide +kernel
theorem dX12_does_140 : decode cX12_does 140 = .ok (.iload 6, 2) := by decide +kernel
theorem dX12_does_142 : decode cX12_does 142 = .ok (.iadd, 1) := by decide +kernel
theorem dX12_does_143 : decode cX12_does 143 = .ok (.aload_n 1, 1) := by decide +kernel
theorem dX12_does_144 : decode cX12_does 144 = .ok (.bipush 50, 2) := by decide +kernel
theorem dX12_does_146 : decode cX12_does 146 = .ok (.iload 6, 2) := by decide +kernel
theorem dX12_does_148 : decode cX12_does 148 = .ok (.iadd, 1) := by decide +kernel
theorem dX12_does_149 : decode cX12_does 149 = .ok (.iaload, 1) := by decide +kernel
theorem dX12_does_150 : decode cX12_does 150 = .ok (.iastore, 1) := by decide +kernel
theorem dX12_does_151 : decode cX12_does 151 = .ok (.iinc 6 1, 3) := by decide +kernel
theorem dX12_does_154 : decode cX12_does 154 = .ok (.goto (-30), 3) := by decide +kernel
theorem dX12_does_157 : decode cX12_does 157 = .ok (.aload_n 1, 1) := by decide +kernel
theorem dX12_does_158 : decode cX12_does 158 = .ok (.bipush 44, 2) := by decide +kernel
theorem dX12_does_160 : decode cX12_does 160 = .ok (.dup2, 1) := by decide +kernel
theorem dX12_does_161 : decode cX12_does 161 = .ok (.iaload, 1) := by decide +kernel
theorem dX12_does_162 : decode cX12_does 162 = .ok (.iconst 1, 1) := by decide +kernel
theorem dX12_does_163 : decode cX12_does 163 = .ok (.isub, 1) := by decide +kernel
theorem dX12_does_164 : decode cX12_does 164 = .ok (.iastore, 1) := by decide +kernel
theorem dX12_does_165 : decode cX12_does 165 = .ok (.aload_n 0, 1) := by decide +kernel
theorem dX12_does_166 : decode cX12_does 166 = .ok (.aload_n 1, 1) := by decide +kernel
theorem dX12_does_167 : decode cX12_does 167 = .ok (.bipush 44, 2) := by decide +kernel
theorem dX12_does_169 : decode cX12_does 169 = .ok (.iaload, 1) := by decide +kernel
theorem dX12_does_170 : decode cX12_does 170 = .ok (.putfield 373, 3) := by decide +kernel
theorem dX12_does_173 : decode cX12_does 173 = .ok (.goto 53, 3) := by decide +kernel
theorem dX12_does_176 : decode cX12_does 176 = .ok (.aload_n 0, 1) := by decide +kernel
theorem dX12_does_177 : decode cX12_does 177 = .ok (.aload_n 1, 1) := by decide +kernel
theorem dX12_does_178 : decode cX12_does 178 = .ok (.bipush 25, 2) := by decide +kernel
theorem dX12_does_180 : decode cX12_does 180 = .ok (.iload_n 3, 1) := by decide +kernel
theorem dX12_does_181 : decode cX12_does 181 = .ok (.iadd, 1) := by decide +kernel
theorem dX12_does_182 : decode cX12_does 182 = .ok (.iaload, 1) := by decide +kernel
theorem dX12_does_183 : decode cX12_does 183 = .ok (.putfield 373, 3) := by decide +kernel
theorem dX12_does_186 : decode cX12_does 186 = .ok (.aload_n 1, 1) := by decide +kernel
theorem dX12_does_187 : decode cX12_does 187 = .ok (.bipush 25, 2) := by decide +kernel
theorem dX12_does_189 : decode cX12_does 189 = .ok (.iload_n 3, 1) := by decide +kernel
theorem dX12_does_190 : decode cX12_does 190 = .ok (.iadd, 1) := by decide +kernel
theorem dX12_does_191 : decode cX12_does 191 = .ok (.iconst 0, 1) := by decide +kernel
theorem dX12_does_192 : decode cX12_does 192 = .ok (.iastore, 1) := by decide +kernel
theorem dX12_does_193 : decode cX12_does 193 = .ok (.aload_n 1, 1) := by decide +kernel
theorem dX12_does_194 : decode cX12_does 194 = .ok (.bipush 37, 2) := by decide +kernel
theorem dX12_does_196 : decode cX12_does 196 = .ok (.iload_n 3, 1) := by decide +kernel
theorem dX12_does_197 : decode cX12_does 197 = .ok (.iadd, 1) := by decide +kernel
theorem dX12_does_198 : decode cX12_does 198 = .ok (.iconst 1, 1) := by decide +kernel
theorem dX12_does_199 : decode cX12_does 199 = .ok (.iastore, 1) := by decide +kernel
theorem dX12_does_200 : decode cX12_does 200 = .ok (.goto 26, 3) := by decide +kernel
theorem dX12_does_203 : decode cX12_does 203 = .ok (.aload_n 1, 1) := by decide +kernel
theorem dX12_does_204 : decode cX12_does 204 = .ok (.bipush 37, 2) := by decide +kernel
theorem dX12_does_206 : decode cX12_does 206 = .ok (.iload_n 3, 1) := by decide +kernel
theorem dX12_does_207 : decode cX12_does 207 = .ok (.iadd, 1) := by decide +kernel
theorem dX12_does_208 : decode cX12_does 208 = .ok (.iconst 0, 1) := by decide +kernel
theorem dX12_does_209 : decode cX12_does 209 = .ok (.iastore, 1) := by decide +kernel
theorem dX12_does_210 : decode cX12_does 210 = .ok (.aload_n 0, 1) := by decide +kernel
theorem dX12_does_211 : decode cX12_does 211 = .ok (.aload_n 1, 1) := by decide +kernel
theorem dX12_does_212 : decode cX12_does 212 = .ok (.bipush 41, 2) := by decide +kernel
theorem dX12_does_214 : decode cX12_does 214 = .ok (.iaload, 1) := by decide +kernel
theorem dX12_does_215 : decode cX12_does 215 = .ok (.putfield 373, 3) := by decide +kernel
theorem dX12_does_218 : decode cX12_does 218 = .ok (.goto 8, 3) := by decide +kernel
theorem dX12_does_221 : decode cX12_does 221 = .ok (.aload_n 0, 1) := by decide +kernel
theorem dX12_does_222 : decode cX12_does 222 = .ok (.aload_n 1, 1) := by decide +kernel
theorem dX12_does_223 : decode cX12_does 223 = .ok (.invokevirtual 383, 3) := by decide +kernel
theorem dX12_does_226 : decode cX12_does 226 = .ok (.return_, 1) := by decide +kernel
theorem dX12_asksAs_0 : decode cX12_asksAs 0 = .ok (.aload_n 1, 1) := by decide +kernel
theorem dX12_asksAs_1 : decode cX12_asksAs 1 = .ok (.aload_n 0, 1) := by decide +kernel
theorem dX12_asksAs_2 : decode cX12_asksAs 2 = .ok (.getfield 353, 3) := by decide +kernel
theorem dX12_asksAs_5 : decode cX12_asksAs 5 = .ok (.iload_n 2, 1) := by decide +kernel
theorem dX12_asksAs_6 : decode cX12_asksAs 6 = .ok (.invokestatic 356, 3) := by decide +kernel
theorem dX12_asksAs_9 : decode cX12_asksAs 9 = .ok (.istore 5, 2) := by decide +kernel
theorem dX12_asksAs_11 : decode cX12_asksAs 11 = .ok (.iload 5, 2) := by decide +kernel
theorem dX12_asksAs_13 : decode cX12_asksAs 13 = .ok (.iconst (-1), 1) := by decide +kernel
theorem dX12_asksAs_14 : decode cX12_asksAs 14 = .ok (.if_icmp .ne 58, 3) := by decide +kernel
theorem dX12_asksAs_17 : decode cX12_asksAs 17 = .ok (.aload_n 1, 1) := by decide +kernel
theorem dX12_asksAs_18 : decode cX12_asksAs 18 = .ok (.bipush 44, 2) := by decide +kernel
theorem dX12_asksAs_20 : decode cX12_asksAs 20 = .ok (.iaload, 1) := by decide +kernel
theorem dX12_asksAs_21 : decode cX12_asksAs 21 = .ok (.istore 5, 2) := by decide +kernel
theorem dX12_asksAs_23 : decode cX12_asksAs 23 = .ok (.aload_n 1, 1) := by decide +kernel
theorem dX12_asksAs_24 : decode cX12_asksAs 24 = .ok (.bipush 44, 2) := by decide +kernel
theorem dX12_asksAs_26 : decode cX12_asksAs 26 = .ok (.dup2, 1) := by decide +kernel
theorem dX12_asksAs_27 : decode cX12_asksAs 27 = .ok (.iaload, 1) := by decide +kernel
theorem dX12_asksAs_28 : decode cX12_asksAs 28 = .ok (.iconst 1, 1) := by decide +kernel
theorem dX12_asksAs_29 : decode cX12_asksAs 29 = .ok (.iadd, 1) := by decide +kernel
theorem dX12_asksAs_30 : decode cX12_asksAs 30 = .ok (.iastore, 1) := by decide +kernel
theorem dX12_asksAs_31 : decode cX12_asksAs 31 = .ok (.aload_n 1, 1) := by decide +kernel
theorem dX12_asksAs_32 : decode cX12_asksAs 32 = .ok (.bipush 45, 2) := by decide +kernel
theorem dX12_asksAs_34 : decode cX12_asksAs 34 = .ok (.iconst 5, 1) := by decide +kernel
theorem dX12_asksAs_35 : decode cX12_asksAs 35 = .ok (.iload 5, 2) := by decide +kernel
theorem dX12_asksAs_37 : decode cX12_asksAs 37 = .ok (.imul, 1) := by decide +kernel
theorem dX12_asksAs_38 : decode cX12_asksAs 38 = .ok (.iadd, 1) := by decide +kernel
theorem dX12_asksAs_39 : decode cX12_asksAs 39 = .ok (.aload_n 0, 1) := by decide +kernel
theorem dX12_asksAs_40 : decode cX12_asksAs 40 = .ok (.getfield 353, 3) := by decide +kernel
theorem dX12_asksAs_43 : decode cX12_asksAs 43 = .ok (.bipush 32, 2) := by decide +kernel
theorem dX12_asksAs_45 : decode cX12_asksAs 45 = .ok (.lshr, 1) := by decide +kernel
theorem dX12_asksAs_46 : decode cX12_asksAs 46 = .ok (.l2i, 1) := by decide +kernel
theorem dX12_asksAs_47 : decode cX12_asksAs 47 = .ok (.iastore, 1) := by decide +kernel
theorem dX12_asksAs_48 : decode cX12_asksAs 48 = .ok (.aload_n 1, 1) := by decide +kernel
theorem dX12_asksAs_49 : decode cX12_asksAs 49 = .ok (.bipush 46, 2) := by decide +kernel
theorem dX12_asksAs_51 : decode cX12_asksAs 51 = .ok (.iconst 5, 1) := by decide +kernel
theorem dX12_asksAs_52 : decode cX12_asksAs 52 = .ok (.iload 5, 2) := by decide +kernel
theorem dX12_asksAs_54 : decode cX12_asksAs 54 = .ok (.imul, 1) := by decide +kernel
theorem dX12_asksAs_55 : decode cX12_asksAs 55 = .ok (.iadd, 1) := by decide +kernel
theorem dX12_asksAs_56 : decode cX12_asksAs 56 = .ok (.aload_n 0, 1) := by decide +kernel
theorem dX12_asksAs_57 : decode cX12_asksAs 57 = .ok (.getfield 353, 3) := by decide +kernel
theorem dX12_asksAs_60 : decode cX12_asksAs 60 = .ok (.l2i, 1) := by decide +kernel
theorem dX12_asksAs_61 : decode cX12_asksAs 61 = .ok (.iastore, 1) := by decide +kernel
theorem dX12_asksAs_62 : decode cX12_asksAs 62 = .ok (.aload_n 1, 1) := by decide +kernel
theorem dX12_asksAs_63 : decode cX12_asksAs 63 = .ok (.bipush 47, 2) := by decide +kernel
theorem dX12_asksAs_65 : decode cX12_asksAs 65 = .ok (.iconst 5, 1) := by decide +kernel
theorem dX12_asksAs_66 : decode cX12_asksAs 66 = .ok (.iload 5, 2) := by decide +kernel
theorem dX12_asksAs_68 : decode cX12_asksAs 68 = .ok (.imul, 1) := by decide +kernel
theorem dX12_asksAs_69 : decode cX12_asksAs 69 = .ok (.iadd, 1) := by decide +kernel
theorem dX12_asksAs_70 : decode cX12_asksAs 70 = .ok (.iload_n 2, 1) := by decide +kernel
theorem dX12_asksAs_71 : decode cX12_asksAs 71 = .ok (.iastore, 1) := by decide +kernel
theorem dX12_asksAs_72 : decode cX12_asksAs 72 = .ok (.aload_n 1, 1) := by decide +kernel
theorem dX12_asksAs_73 : decode cX12_asksAs 73 = .ok (.bipush 48, 2) := by decide +kernel
theorem dX12_asksAs_75 : decode cX12_asksAs 75 = .ok (.iconst 5, 1) := by decide +kernel
theorem dX12_asksAs_76 : decode cX12_asksAs 76 = .ok (.iload 5, 2) := by decide +kernel
theorem dX12_asksAs_78 : decode cX12_asksAs 78 = .ok (.imul, 1) := by decide +kernel
theorem dX12_asksAs_79 : decode cX12_asksAs 79 = .ok (.iadd, 1) := by decide +kernel
theorem dX12_asksAs_80 : decode cX12_asksAs 80 = .ok (.iload_n 3, 1) := by decide +kernel
theorem dX12_asksAs_81 : decode cX12_asksAs 81 = .ok (.iastore, 1) := by decide +kernel
theorem dX12_asksAs_82 : decode cX12_asksAs 82 = .ok (.aload_n 1, 1) := by decide +kernel
theorem dX12_asksAs_83 : decode cX12_asksAs 83 = .ok (.bipush 49, 2) := by decide +kernel
theorem dX12_asksAs_85 : decode cX12_asksAs 85 = .ok (.iconst 5, 1) := by decide +kernel
theorem dX12_asksAs_86 : decode cX12_asksAs 86 = .ok (.iload 5, 2) := by decide +kernel
theorem dX12_asksAs_88 : decode cX12_asksAs 88 = .ok (.imul, 1) := by decide +kernel
theorem dX12_asksAs_89 : decode cX12_asksAs 89 = .ok (.iadd, 1) := by decide +kernel
theorem dX12_asksAs_90 : decode cX12_asksAs 90 = .ok (.iload 4, 2) := by decide +kernel
theorem dX12_asksAs_92 : decode cX12_asksAs 92 = .ok (.iastore, 1) := by decide +kernel
theorem dX12_asksAs_93 : decode cX12_asksAs 93 = .ok (.aload_n 0, 1) := by decide +kernel
theorem dX12_asksAs_94 : decode cX12_asksAs 94 = .ok (.iload 5, 2) := by decide +kernel
theorem dX12_asksAs_96 : decode cX12_asksAs 96 = .ok (.putfield 373, 3) := by decide +kernel
theorem dX12_asksAs_99 : decode cX12_asksAs 99 = .ok (.return_, 1) := by decide +kernel
theorem dX12_settles_0 : decode cX12_settles 0 = .ok (.aload_n 0, 1) := by decide +kernel
theorem dX12_settles_1 : decode cX12_settles 1 = .ok (.aload_n 1, 1) := by decide +kernel
theorem dX12_settles_2 : decode cX12_settles 2 = .ok (.invokevirtual 363, 3) := by decide +kernel
theorem dX12_settles_5 : decode cX12_settles 5 = .ok (.aload_n 0, 1) := by decide +kernel
theorem dX12_settles_6 : decode cX12_settles 6 = .ok (.aload_n 1, 1) := by decide +kernel
theorem dX12_settles_7 : decode cX12_settles 7 = .ok (.invokevirtual 367, 3) := by decide +kernel
theorem dX12_settles_10 : decode cX12_settles 10 = .ok (.istore_n 2, 1) := by decide +kernel
theorem dX12_settles_11 : decode cX12_settles 11 = .ok (.aload_n 0, 1) := by decide +kernel
theorem dX12_settles_12 : decode cX12_settles 12 = .ok (.iconst 0, 1) := by decide +kernel
theorem dX12_settles_13 : decode cX12_settles 13 = .ok (.putfield 373, 3) := by decide +kernel
theorem dX12_settles_16 : decode cX12_settles 16 = .ok (.iconst 0, 1) := by decide +kernel
theorem dX12_settles_17 : decode cX12_settles 17 = .ok (.istore_n 3, 1) := by decide +kernel
theorem dX12_settles_18 : decode cX12_settles 18 = .ok (.iload_n 3, 1) := by decide +kernel
theorem dX12_settles_19 : decode cX12_settles 19 = .ok (.aload_n 0, 1) := by decide +kernel
theorem dX12_settles_20 : decode cX12_settles 20 = .ok (.getfield 237, 3) := by decide +kernel
theorem dX12_settles_23 : decode cX12_settles 23 = .ok (.if_icmp .ge 50, 3) := by decide +kernel
theorem dX12_settles_26 : decode cX12_settles 26 = .ok (.aload_n 0, 1) := by decide +kernel
theorem dX12_settles_27 : decode cX12_settles 27 = .ok (.iload_n 2, 1) := by decide +kernel
theorem dX12_settles_28 : decode cX12_settles 28 = .ok (.iload_n 3, 1) := by decide +kernel
theorem dX12_settles_29 : decode cX12_settles 29 = .ok (.invokevirtual 386, 3) := by decide +kernel
theorem dX12_settles_32 : decode cX12_settles 32 = .ok (.istore 4, 2) := by decide +kernel
theorem dX12_settles_34 : decode cX12_settles 34 = .ok (.aload_n 0, 1) := by decide +kernel
theorem dX12_settles_35 : decode cX12_settles 35 = .ok (.dup, 1) := by decide +kernel
theorem dX12_settles_36 : decode cX12_settles 36 = .ok (.getfield 373, 3) := by decide +kernel
theorem dX12_settles_39 : decode cX12_settles 39 = .ok (.aload_n 1, 1) := by decide +kernel
theorem dX12_settles_40 : decode cX12_settles 40 = .ok (.bipush 21, 2) := by decide +kernel
theorem dX12_settles_42 : decode cX12_settles 42 = .ok (.iload_n 3, 1) := by decide +kernel
theorem dX12_settles_43 : decode cX12_settles 43 = .ok (.iadd, 1) := by decide +kernel
theorem dX12_settles_44 : decode cX12_settles 44 = .ok (.iaload, 1) := by decide +kernel
theorem dX12_settles_45 : decode cX12_settles 45 = .ok (.iload 4, 2) := by decide +kernel
theorem dX12_settles_47 : decode cX12_settles 47 = .ok (.if_icmp .ne 7, 3) := by decide +kernel
theorem dX12_settles_50 : decode cX12_settles 50 = .ok (.iconst 0, 1) := by decide +kernel
theorem dX12_settles_51 : decode cX12_settles 51 = .ok (.goto 4, 3) := by decide +kernel
theorem dX12_settles_54 : decode cX12_settles 54 = .ok (.iconst 1, 1) := by decide +kernel
theorem dX12_settles_55 : decode cX12_settles 55 = .ok (.iadd, 1) := by decide +kernel
theorem dX12_settles_56 : decode cX12_settles 56 = .ok (.putfield 373, 3) := by decide +kernel
theorem dX12_settles_59 : decode cX12_settles 59 = .ok (.aload_n 1, 1) := by decide +kernel
theorem dX12_settles_60 : decode cX12_settles 60 = .ok (.bipush 21, 2) := by decide +kernel
theorem dX12_settles_62 : decode cX12_settles 62 = .ok (.iload_n 3, 1) := by decide +kernel
theorem dX12_settles_63 : decode cX12_settles 63 = .ok (.iadd, 1) := by decide +kernel
theorem dX12_settles_64 : decode cX12_settles 64 = .ok (.iload 4, 2) := by decide +kernel
theorem dX12_settles_66 : decode cX12_settles 66 = .ok (.iastore, 1) := by decide +kernel
theorem dX12_settles_67 : decode cX12_settles 67 = .ok (.iinc 3 1, 3) := by decide +kernel
theorem dX12_settles_70 : decode cX12_settles 70 = .ok (.goto (-52), 3) := by decide +kernel
theorem dX12_settles_73 : decode cX12_settles 73 = .ok (.return_, 1) := by decide +kernel
theorem dX12_tries_0 : decode cX12_tries 0 = .ok (.aload_n 0, 1) := by decide +kernel
theorem dX12_tries_1 : decode cX12_tries 1 = .ok (.aload_n 0, 1) := by decide +kernel
theorem dX12_tries_2 : decode cX12_tries 2 = .ok (.getfield 63, 3) := by decide +kernel
theorem dX12_tries_5 : decode cX12_tries 5 = .ok (.iload_n 1, 1) := by decide +kernel
theorem dX12_tries_6 : decode cX12_tries 6 = .ok (.iload_n 2, 1) := by decide +kernel
theorem dX12_tries_7 : decode cX12_tries 7 = .ok (.iload_n 3, 1) := by decide +kernel
theorem dX12_tries_8 : decode cX12_tries 8 = .ok (.iload 4, 2) := by decide +kernel
theorem dX12_tries_10 : decode cX12_tries 10 = .ok (.invokevirtual 389, 3) := by decide +kernel
theorem dX12_tries_13 : decode cX12_tries 13 = .ok (.istore 5, 2) := by decide +kernel
theorem dX12_tries_15 : decode cX12_tries 15 = .ok (.iload 5, 2) := by decide +kernel
theorem dX12_tries_17 : decode cX12_tries 17 = .ok (.iconst (-1), 1) := by decide +kernel
theorem dX12_tries_18 : decode cX12_tries 18 = .ok (.if_icmp .eq 6, 3) := by decide +kernel
theorem dX12_tries_21 : decode cX12_tries 21 = .ok (.iload 5, 2) := by decide +kernel
theorem dX12_tries_23 : decode cX12_tries 23 = .ok (.ireturn, 1) := by decide +kernel
theorem dX12_tries_24 : decode cX12_tries 24 = .ok (.aload_n 0, 1) := by decide +kernel
theorem dX12_tries_25 : decode cX12_tries 25 = .ok (.invokevirtual 393, 3) := by decide +kernel
theorem dX12_tries_28 : decode cX12_tries 28 = .ok (.aload_n 0, 1) := by decide +kernel
theorem dX12_tries_29 : decode cX12_tries 29 = .ok (.aload_n 0, 1) := by decide +kernel
theorem dX12_tries_30 : decode cX12_tries 30 = .ok (.getfield 63, 3) := by decide +kernel
theorem dX12_tries_33 : decode cX12_tries 33 = .ok (.iload_n 1, 1) := by decide +kernel
theorem dX12_tries_34 : decode cX12_tries 34 = .ok (.iload_n 2, 1) := by decide +kernel
theorem dX12_tries_35 : decode cX12_tries 35 = .ok (.iload_n 3, 1) := by decide +kernel
theorem dX12_tries_36 : decode cX12_tries 36 = .ok (.iload 4, 2) := by decide +kernel
theorem dX12_tries_38 : decode cX12_tries 38 = .ok (.invokevirtual 396, 3) := by decide +kernel
theorem dX12_tries_41 : decode cX12_tries 41 = .ok (.aload_n 0, 1) := by decide +kernel
theorem dX12_tries_42 : decode cX12_tries 42 = .ok (.iload_n 1, 1) := by decide +kernel
theorem dX12_tries_43 : decode cX12_tries 43 = .ok (.iload_n 1, 1) := by decide +kernel
theorem dX12_tries_44 : decode cX12_tries 44 = .ok (.bipush 6, 2) := by decide +kernel
theorem dX12_tries_46 : decode cX12_tries 46 = .ok (.if_icmp .ne 10, 3) := by decide +kernel
theorem dX12_tries_49 : decode cX12_tries 49 = .ok (.aload_n 0, 1) := by decide +kernel
theorem dX12_tries_50 : decode cX12_tries 50 = .ok (.getfield 373, 3) := by decide +kernel
theorem dX12_tries_53 : decode cX12_tries 53 = .ok (.goto 4, 3) := by decide +kernel
theorem dX12_tries_56 : decode cX12_tries 56 = .ok (.iload_n 2, 1) := by decide +kernel
theorem dX12_tries_57 : decode cX12_tries 57 = .ok (.invokevirtual 400, 3) := by decide +kernel
theorem dX12_tries_60 : decode cX12_tries 60 = .ok (.iconst (-1), 1) := by decide +kernel
theorem dX12_tries_61 : decode cX12_tries 61 = .ok (.ireturn, 1) := by decide +kernel
theorem dX12_act_0 : decode cX12_act 0 = .ok (.aload_n 0, 1) := by decide +kernel
theorem dX12_act_1 : decode cX12_act 1 = .ok (.iconst 0, 1) := by decide +kernel
theorem dX12_act_2 : decode cX12_act 2 = .ok (.putfield 101, 3) := by decide +kernel
theorem dX12_act_5 : decode cX12_act 5 = .ok (.aload_n 0, 1) := by decide +kernel
theorem dX12_act_6 : decode cX12_act 6 = .ok (.iload_n 1, 1) := by decide +kernel
theorem dX12_act_7 : decode cX12_act 7 = .ok (.iload_n 2, 1) := by decide +kernel
theorem dX12_act_8 : decode cX12_act 8 = .ok (.iload_n 3, 1) := by decide +kernel
theorem dX12_act_9 : decode cX12_act 9 = .ok (.iload 4, 2) := by decide +kernel
theorem dX12_act_11 : decode cX12_act 11 = .ok (.invokevirtual 404, 3) := by decide +kernel
theorem dX12_act_14 : decode cX12_act 14 = .ok (.istore 5, 2) := by decide +kernel
theorem dX12_act_16 : decode cX12_act 16 = .ok (.iload 5, 2) := by decide +kernel
theorem dX12_act_18 : decode cX12_act 18 = .ok (.iconst (-1), 1) := by decide +kernel
theorem dX12_act_19 : decode cX12_act 19 = .ok (.if_icmp .ne 8, 3) := by decide +kernel
theorem dX12_act_22 : decode cX12_act 22 = .ok (.aload_n 0, 1) := by decide +kernel
theorem dX12_act_23 : decode cX12_act 23 = .ok (.getfield 373, 3) := by decide +kernel
theorem dX12_act_26 : decode cX12_act 26 = .ok (.ireturn, 1) := by decide +kernel
theorem dX12_act_27 : decode cX12_act 27 = .ok (.aload_n 0, 1) := by decide +kernel
theorem dX12_act_28 : decode cX12_act 28 = .ok (.getfield 38, 3) := by decide +kernel
theorem dX12_act_31 : decode cX12_act 31 = .ok (.iload 5, 2) := by decide +kernel
theorem dX12_act_33 : decode cX12_act 33 = .ok (.dup2, 1) := by decide +kernel
theorem dX12_act_34 : decode cX12_act 34 = .ok (.iaload, 1) := by decide +kernel
theorem dX12_act_35 : decode cX12_act 35 = .ok (.iconst 1, 1) := by decide +kernel
theorem dX12_act_36 : decode cX12_act 36 = .ok (.iadd, 1) := by decide +kernel
theorem dX12_act_37 : decode cX12_act 37 = .ok (.iastore, 1) := by decide +kernel
theorem dX12_act_38 : decode cX12_act 38 = .ok (.iconst (-1), 1) := by decide +kernel
theorem dX12_act_39 : decode cX12_act 39 = .ok (.ireturn, 1) := by decide +kernel
theorem dX12_tick_0 : decode cX12_tick 0 = .ok (.aload_n 0, 1) := by decide +kernel
theorem dX12_tick_1 : decode cX12_tick 1 = .ok (.iconst 0, 1) := by decide +kernel
theorem dX12_tick_2 : decode cX12_tick 2 = .ok (.iload_n 1, 1) := by decide +kernel
theorem dX12_tick_3 : decode cX12_tick 3 = .ok (.iconst 0, 1) := by decide +kernel
theorem dX12_tick_4 : decode cX12_tick 4 = .ok (.iconst 0, 1) := by decide +kernel
theorem dX12_tick_5 : decode cX12_tick 5 = .ok (.invokevirtual 408, 3) := by decide +kernel
theorem dX12_tick_8 : decode cX12_tick 8 = .ok (.ireturn, 1) := by decide +kernel
theorem dX12_move_0 : decode cX12_move 0 = .ok (.aload_n 0, 1) := by decide +kernel
theorem dX12_move_1 : decode cX12_move 1 = .ok (.iconst 1, 1) := by decide +kernel
theorem dX12_move_2 : decode cX12_move 2 = .ok (.iload_n 1, 1) := by decide +kernel
theorem dX12_move_3 : decode cX12_move 3 = .ok (.iload_n 2, 1) := by decide +kernel
theorem dX12_move_4 : decode cX12_move 4 = .ok (.iconst 0, 1) := by decide +kernel
theorem dX12_move_5 : decode cX12_move 5 = .ok (.invokevirtual 408, 3) := by decide +kernel
theorem dX12_move_8 : decode cX12_move 8 = .ok (.ireturn, 1) := by decide +kernel
theorem dX12_actBy_0 : decode cX12_actBy 0 = .ok (.aload_n 0, 1) := by decide +kernel
theorem dX12_actBy_1 : decode cX12_actBy 1 = .ok (.iconst 0, 1) := by decide +kernel
theorem dX12_actBy_2 : decode cX12_actBy 2 = .ok (.putfield 101, 3) := by decide +kernel
theorem dX12_actBy_5 : decode cX12_actBy 5 = .ok (.aload_n 0, 1) := by decide +kernel
theorem dX12_actBy_6 : decode cX12_actBy 6 = .ok (.iload_n 2, 1) := by decide +kernel
theorem dX12_actBy_7 : decode cX12_actBy 7 = .ok (.invokevirtual 350, 3) := by decide +kernel
theorem dX12_actBy_10 : decode cX12_actBy 10 = .ok (.ifCond .eq 20, 3) := by decide +kernel
theorem dX12_actBy_13 : decode cX12_actBy 13 = .ok (.aload_n 0, 1) := by decide +kernel
theorem dX12_actBy_14 : decode cX12_actBy 14 = .ok (.iconst 2, 1) := by decide +kernel
theorem dX12_actBy_15 : decode cX12_actBy 15 = .ok (.invokevirtual 255, 3) := by decide +kernel
theorem dX12_actBy_18 : decode cX12_actBy 18 = .ok (.iconst (-1), 1) := by decide +kernel
theorem dX12_actBy_19 : decode cX12_actBy 19 = .ok (.if_icmp .ne 7, 3) := by decide +kernel
theorem dX12_actBy_22 : decode cX12_actBy 22 = .ok (.iconst (-1), 1) := by decide +kernel
theorem dX12_actBy_23 : decode cX12_actBy 23 = .ok (.goto 8, 3) := by decide +kernel
theorem dX12_actBy_26 : decode cX12_actBy 26 = .ok (.iconst 1, 1) := by decide +kernel
theorem dX12_actBy_27 : decode cX12_actBy 27 = .ok (.goto 4, 3) := by decide +kernel
theorem dX12_actBy_30 : decode cX12_actBy 30 = .ok (.iconst 0, 1) := by decide +kernel
theorem dX12_actBy_31 : decode cX12_actBy 31 = .ok (.istore 5, 2) := by decide +kernel
theorem dX12_actBy_33 : decode cX12_actBy 33 = .ok (.aload_n 0, 1) := by decide +kernel
theorem dX12_actBy_34 : decode cX12_actBy 34 = .ok (.aload_n 0, 1) := by decide +kernel
theorem dX12_actBy_35 : decode cX12_actBy 35 = .ok (.getfield 139, 3) := by decide +kernel
theorem dX12_actBy_38 : decode cX12_actBy 38 = .ok (.putfield 353, 3) := by decide +kernel
theorem dX12_actBy_41 : decode cX12_actBy 41 = .ok (.iload 5, 2) := by decide +kernel
theorem dX12_actBy_43 : decode cX12_actBy 43 = .ok (.iconst (-1), 1) := by decide +kernel
theorem dX12_actBy_44 : decode cX12_actBy 44 = .ok (.if_icmp .ne 14, 3) := by decide +kernel
theorem dX12_actBy_47 : decode cX12_actBy 47 = .ok (.aload_n 0, 1) := by decide +kernel
theorem dX12_actBy_48 : decode cX12_actBy 48 = .ok (.iload_n 1, 1) := by decide +kernel
theorem dX12_actBy_49 : decode cX12_actBy 49 = .ok (.iload_n 2, 1) := by decide +kernel
theorem dX12_actBy_50 : decode cX12_actBy 50 = .ok (.iload_n 3, 1) := by decide +kernel
theorem dX12_actBy_51 : decode cX12_actBy 51 = .ok (.iload 4, 2) := by decide +kernel
theorem dX12_actBy_53 : decode cX12_actBy 53 = .ok (.invokevirtual 404, 3) := by decide +kernel
theorem dX12_actBy_56 : decode cX12_actBy 56 = .ok (.istore 5, 2) := by decide +kernel
theorem dX12_actBy_58 : decode cX12_actBy 58 = .ok (.iload 5, 2) := by decide +kernel
theorem dX12_actBy_60 : decode cX12_actBy 60 = .ok (.iconst (-1), 1) := by decide +kernel
theorem dX12_actBy_61 : decode cX12_actBy 61 = .ok (.if_icmp .ne 13, 3) := by decide +kernel
theorem dX12_actBy_64 : decode cX12_actBy 64 = .ok (.aload_n 0, 1) := by decide +kernel
theorem dX12_actBy_65 : decode cX12_actBy 65 = .ok (.iconst 0, 1) := by decide +kernel
theorem dX12_actBy_66 : decode cX12_actBy 66 = .ok (.putfield 104, 3) := by decide +kernel
theorem dX12_actBy_69 : decode cX12_actBy 69 = .ok (.aload_n 0, 1) := by decide +kernel
theorem dX12_actBy_70 : decode cX12_actBy 70 = .ok (.getfield 373, 3) := by decide +kernel
theorem dX12_actBy_73 : decode cX12_actBy 73 = .ok (.ireturn, 1) := by decide +kernel
theorem dX12_actBy_74 : decode cX12_actBy 74 = .ok (.aload_n 0, 1) := by decide +kernel
theorem dX12_actBy_75 : decode cX12_actBy 75 = .ok (.getfield 38, 3) := by decide +kernel
theorem dX12_actBy_78 : decode cX12_actBy 78 = .ok (.iload 5, 2) := by decide +kernel
theorem dX12_actBy_80 : decode cX12_actBy 80 = .ok (.dup2, 1) := by decide +kernel
theorem dX12_actBy_81 : decode cX12_actBy 81 = .ok (.iaload, 1) := by decide +kernel
theorem dX12_actBy_82 : decode cX12_actBy 82 = .ok (.iconst 1, 1) := by decide +kernel
theorem dX12_actBy_83 : decode cX12_actBy 83 = .ok (.iadd, 1) := by decide +kernel
theorem dX12_actBy_84 : decode cX12_actBy 84 = .ok (.iastore, 1) := by decide +kernel
theorem dX12_actBy_85 : decode cX12_actBy 85 = .ok (.iconst (-1), 1) := by decide +kernel
theorem dX12_actBy_86 : decode cX12_actBy 86 = .ok (.ireturn, 1) := by decide +kernel
theorem dX12_ask_0 : decode cX12_ask 0 = .ok (.aload_n 0, 1) := by decide +kernel
theorem dX12_ask_1 : decode cX12_ask 1 = .ok (.iconst 2, 1) := by decide +kernel
theorem dX12_ask_2 : decode cX12_ask 2 = .ok (.iload_n 1, 1) := by decide +kernel
theorem dX12_ask_3 : decode cX12_ask 3 = .ok (.iload_n 2, 1) := by decide +kernel
theorem dX12_ask_4 : decode cX12_ask 4 = .ok (.iload_n 3, 1) := by decide +kernel
theorem dX12_ask_5 : decode cX12_ask 5 = .ok (.invokevirtual 411, 3) := by decide +kernel
theorem dX12_ask_8 : decode cX12_ask 8 = .ok (.ireturn, 1) := by decide +kernel
theorem dX12_drop_0 : decode cX12_drop 0 = .ok (.aload_n 0, 1) := by decide +kernel
theorem dX12_drop_1 : decode cX12_drop 1 = .ok (.iconst 3, 1) := by decide +kernel
theorem dX12_drop_2 : decode cX12_drop 2 = .ok (.iload_n 1, 1) := by decide +kernel
theorem dX12_drop_3 : decode cX12_drop 3 = .ok (.iconst 0, 1) := by decide +kernel
theorem dX12_drop_4 : decode cX12_drop 4 = .ok (.iconst 0, 1) := by decide +kernel
theorem dX12_drop_5 : decode cX12_drop 5 = .ok (.invokevirtual 411, 3) := by decide +kernel
theorem dX12_drop_8 : decode cX12_drop 8 = .ok (.ireturn, 1) := by decide +kernel
theorem dX12_stop_0 : decode cX12_stop 0 = .ok (.aload_n 0, 1) := by decide +kernel
theorem dX12_stop_1 : decode cX12_stop 1 = .ok (.iconst 4, 1) := by decide +kernel
theorem dX12_stop_2 : decode cX12_stop 2 = .ok (.iload_n 1, 1) := by decide +kernel
theorem dX12_stop_3 : decode cX12_stop 3 = .ok (.iconst 0, 1) := by decide +kernel
theorem dX12_stop_4 : decode cX12_stop 4 = .ok (.iconst 0, 1) := by decide +kernel
theorem dX12_stop_5 : decode cX12_stop 5 = .ok (.invokevirtual 408, 3) := by decide +kernel
theorem dX12_stop_8 : decode cX12_stop 8 = .ok (.ireturn, 1) := by decide +kernel
theorem dX12_start_0 : decode cX12_start 0 = .ok (.aload_n 0, 1) := by decide +kernel
theorem dX12_start_1 : decode cX12_start 1 = .ok (.iconst 5, 1) := by decide +kernel
theorem dX12_start_2 : decode cX12_start 2 = .ok (.iload_n 1, 1) := by decide +kernel
theorem dX12_start_3 : decode cX12_start 3 = .ok (.iconst 0, 1) := by decide +kernel
theorem dX12_start_4 : decode cX12_start 4 = .ok (.iconst 0, 1) := by decide +kernel
theorem dX12_start_5 : decode cX12_start 5 = .ok (.invokevirtual 408, 3) := by decide +kernel
theorem dX12_start_8 : decode cX12_start 8 = .ok (.ireturn, 1) := by decide +kernel
theorem dX12_settle_0 : decode cX12_settle 0 = .ok (.aload_n 0, 1) := by decide +kernel
theorem dX12_settle_1 : decode cX12_settle 1 = .ok (.bipush 6, 2) := by decide +kernel
theorem dX12_settle_3 : decode cX12_settle 3 = .ok (.iconst 0, 1) := by decide +kernel
theorem dX12_settle_4 : decode cX12_settle 4 = .ok (.iconst 0, 1) := by decide +kernel
theorem dX12_settle_5 : decode cX12_settle 5 = .ok (.iconst 0, 1) := by decide +kernel
theorem dX12_settle_6 : decode cX12_settle 6 = .ok (.invokevirtual 408, 3) := by decide +kernel
theorem dX12_settle_9 : decode cX12_settle 9 = .ok (.ireturn, 1) := by decide +kernel
theorem dX12_draw_0 : decode cX12_draw 0 = .ok (.aload_n 0, 1) := by decide +kernel
theorem dX12_draw_1 : decode cX12_draw 1 = .ok (.aload_n 0, 1) := by decide +kernel
theorem dX12_draw_2 : decode cX12_draw 2 = .ok (.getfield 414, 3) := by decide +kernel
theorem dX12_draw_5 : decode cX12_draw 5 = .ok (.ldc2_w 417, 3) := by decide +kernel
theorem dX12_draw_8 : decode cX12_draw 8 = .ok (.lmul, 1) := by decide +kernel
theorem dX12_draw_9 : decode cX12_draw 9 = .ok (.ldc2_w 419, 3) := by decide +kernel
theorem dX12_draw_12 : decode cX12_draw 12 = .ok (.ladd, 1) := by decide +kernel
theorem dX12_draw_13 : decode cX12_draw 13 = .ok (.putfield 414, 3) := by decide +kernel
theorem dX12_draw_16 : decode cX12_draw 16 = .ok (.aload_n 0, 1) := by decide +kernel
theorem dX12_draw_17 : decode cX12_draw 17 = .ok (.getfield 414, 3) := by decide +kernel
theorem dX12_draw_20 : decode cX12_draw 20 = .ok (.bipush 33, 2) := by decide +kernel
theorem dX12_draw_22 : decode cX12_draw 22 = .ok (.lushr, 1) := by decide +kernel
theorem dX12_draw_23 : decode cX12_draw 23 = .ok (.iload_n 1, 1) := by decide +kernel
theorem dX12_draw_24 : decode cX12_draw 24 = .ok (.i2l, 1) := by decide +kernel
theorem dX12_draw_25 : decode cX12_draw 25 = .ok (.lrem, 1) := by decide +kernel
theorem dX12_draw_26 : decode cX12_draw 26 = .ok (.l2i, 1) := by decide +kernel
theorem dX12_draw_27 : decode cX12_draw 27 = .ok (.ireturn, 1) := by decide +kernel
theorem dX12_happens_0 : decode cX12_happens 0 = .ok (.aload_n 0, 1) := by decide +kernel
theorem dX12_happens_1 : decode cX12_happens 1 = .ok (.bipush 8, 2) := by decide +kernel
theorem dX12_happens_3 : decode cX12_happens 3 = .ok (.invokevirtual 421, 3) := by decide +kernel
theorem dX12_happens_6 : decode cX12_happens 6 = .ok (.istore_n 1, 1) := by decide +kernel
theorem dX12_happens_7 : decode cX12_happens 7 = .ok (.iload_n 1, 1) := by decide +kernel
theorem dX12_happens_8 : decode cX12_happens 8 = .ok (.iconst 4, 1) := by decide +kernel
theorem dX12_happens_9 : decode cX12_happens 9 = .ok (.if_icmp .ge 21, 3) := by decide +kernel
theorem dX12_happens_12 : decode cX12_happens 12 = .ok (.aload_n 0, 1) := by decide +kernel
theorem dX12_happens_13 : decode cX12_happens 13 = .ok (.iconst 0, 1) := by decide +kernel
theorem dX12_happens_14 : decode cX12_happens 14 = .ok (.aload_n 0, 1) := by decide +kernel
theorem dX12_happens_15 : decode cX12_happens 15 = .ok (.iconst 5, 1) := by decide +kernel
theorem dX12_happens_16 : decode cX12_happens 16 = .ok (.invokevirtual 421, 3) := by decide +kernel
theorem dX12_happens_19 : decode cX12_happens 19 = .ok (.iconst 1, 1) := by decide +kernel
theorem dX12_happens_20 : decode cX12_happens 20 = .ok (.iadd, 1) := by decide +kernel
theorem dX12_happens_21 : decode cX12_happens 21 = .ok (.iconst 0, 1) := by decide +kernel
theorem dX12_happens_22 : decode cX12_happens 22 = .ok (.iconst 0, 1) := by decide +kernel
theorem dX12_happens_23 : decode cX12_happens 23 = .ok (.invokevirtual 404, 3) := by decide +kernel
theorem dX12_happens_26 : decode cX12_happens 26 = .ok (.istore_n 2, 1) := by decide +kernel
theorem dX12_happens_27 : decode cX12_happens 27 = .ok (.goto 89, 3) := by decide +kernel
theorem dX12_happens_30 : decode cX12_happens 30 = .ok (.iload_n 1, 1) := by decide +kernel
theorem dX12_happens_31 : decode cX12_happens 31 = .ok (.bipush 7, 2) := by decide +kernel
theorem dX12_happens_33 : decode cX12_happens 33 = .ok (.if_icmp .ne 16, 3) := by decide +kernel
theorem dX12_happens_36 : decode cX12_happens 36 = .ok (.aload_n 0, 1) := by decide +kernel
theorem dX12_happens_37 : decode cX12_happens 37 = .ok (.bipush 6, 2) := by decide +kernel
theorem dX12_happens_39 : decode cX12_happens 39 = .ok (.iconst 0, 1) := by decide +kernel
theorem dX12_happens_40 : decode cX12_happens 40 = .ok (.iconst 0, 1) := by decide +kernel
theorem dX12_happens_41 : decode cX12_happens 41 = .ok (.iconst 0, 1) := by decide +kernel
theorem dX12_happens_42 : decode cX12_happens 42 = .ok (.invokevirtual 404, 3) := by decide +kernel
theorem dX12_happens_45 : decode cX12_happens 45 = .ok (.istore_n 2, 1) := by decide +kernel
theorem dX12_happens_46 : decode cX12_happens 46 = .ok (.goto 70, 3) := by decide +kernel
theorem dX12_happens_49 : decode cX12_happens 49 = .ok (.aload_n 0, 1) := by decide +kernel
theorem dX12_happens_50 : decode cX12_happens 50 = .ok (.getfield 237, 3) := by decide +kernel
theorem dX12_happens_53 : decode cX12_happens 53 = .ok (.ifCond .le 63, 3) := by decide +kernel
theorem dX12_happens_56 : decode cX12_happens 56 = .ok (.aload_n 0, 1) := by decide +kernel
theorem dX12_happens_57 : decode cX12_happens 57 = .ok (.aload_n 0, 1) := by decide +kernel
theorem dX12_happens_58 : decode cX12_happens 58 = .ok (.getfield 237, 3) := by decide +kernel
theorem dX12_happens_61 : decode cX12_happens 61 = .ok (.invokevirtual 421, 3) := by decide +kernel
theorem dX12_happens_64 : decode cX12_happens 64 = .ok (.istore_n 2, 1) := by decide +kernel
theorem dX12_happens_65 : decode cX12_happens 65 = .ok (.iload_n 1, 1) := by decide +kernel
theorem dX12_happens_66 : decode cX12_happens 66 = .ok (.bipush 6, 2) := by decide +kernel
theorem dX12_happens_68 : decode cX12_happens 68 = .ok (.if_icmp .ge 22, 3) := by decide +kernel
theorem dX12_happens_71 : decode cX12_happens 71 = .ok (.aload_n 0, 1) := by decide +kernel
theorem dX12_happens_72 : decode cX12_happens 72 = .ok (.iconst 1, 1) := by decide +kernel
theorem dX12_happens_73 : decode cX12_happens 73 = .ok (.iload_n 2, 1) := by decide +kernel
theorem dX12_happens_74 : decode cX12_happens 74 = .ok (.aload_n 0, 1) := by decide +kernel
theorem dX12_happens_75 : decode cX12_happens 75 = .ok (.aload_n 0, 1) := by decide +kernel
theorem dX12_happens_76 : decode cX12_happens 76 = .ok (.getfield 240, 3) := by decide +kernel
theorem dX12_happens_79 : decode cX12_happens 79 = .ok (.invokevirtual 421, 3) := by decide +kernel
theorem dX12_happens_82 : decode cX12_happens 82 = .ok (.iconst 0, 1) := by decide +kernel
theorem dX12_happens_83 : decode cX12_happens 83 = .ok (.invokevirtual 404, 3) := by decide +kernel
theorem dX12_happens_86 : decode cX12_happens 86 = .ok (.istore_n 3, 1) := by decide +kernel
theorem dX12_happens_87 : decode cX12_happens 87 = .ok (.goto 29, 3) := by decide +kernel
theorem dX12_happens_90 : decode cX12_happens 90 = .ok (.aload_n 0, 1) := by decide +kernel
theorem dX12_happens_91 : decode cX12_happens 91 = .ok (.aload_n 0, 1) := by decide +kernel
theorem dX12_happens_92 : decode cX12_happens 92 = .ok (.getfield 63, 3) := by decide +kernel
theorem dX12_happens_95 : decode cX12_happens 95 = .ok (.bipush 37, 2) := by decide +kernel
theorem dX12_happens_97 : decode cX12_happens 97 = .ok (.iload_n 2, 1) := by decide +kernel
theorem dX12_happens_98 : decode cX12_happens 98 = .ok (.iadd, 1) := by decide +kernel
theorem dX12_happens_99 : decode cX12_happens 99 = .ok (.iaload, 1) := by decide +kernel
theorem dX12_happens_100 : decode cX12_happens 100 = .ok (.iconst 1, 1) := by decide +kernel
theorem dX12_happens_101 : decode cX12_happens 101 = .ok (.if_icmp .ne 7, 3) := by decide +kernel
theorem dX12_happens_104 : decode cX12_happens 104 = .ok (.iconst 5, 1) := by decide +kernel
theorem dX12_happens_105 : decode cX12_happens 105 = .ok (.goto 4, 3) := by decide +kernel
theorem dX12_happens_108 : decode cX12_happens 108 = .ok (.iconst 4, 1) := by decide +kernel
theorem dX12_happens_109 : decode cX12_happens 109 = .ok (.iload_n 2, 1) := by decide +kernel
theorem dX12_happens_110 : decode cX12_happens 110 = .ok (.iconst 0, 1) := by decide +kernel
theorem dX12_happens_111 : decode cX12_happens 111 = .ok (.iconst 0, 1) := by decide +kernel
theorem dX12_happens_112 : decode cX12_happens 112 = .ok (.invokevirtual 404, 3) := by decide +kernel
theorem dX12_happens_115 : decode cX12_happens 115 = .ok (.istore_n 3, 1) := by decide +kernel
theorem dX12_happens_116 : decode cX12_happens 116 = .ok (.return_, 1) := by decide +kernel
theorem dX12_years_0 : decode cX12_years 0 = .ok (.aload_n 0, 1) := by decide +kernel
theorem dX12_years_1 : decode cX12_years 1 = .ok (.iconst 0, 1) := by decide +kernel
theorem dX12_years_2 : decode cX12_years 2 = .ok (.putfield 101, 3) := by decide +kernel
theorem dX12_years_5 : decode cX12_years 5 = .ok (.aload_n 0, 1) := by decide +kernel
theorem dX12_years_6 : decode cX12_years 6 = .ok (.getfield 234, 3) := by decide +kernel
theorem dX12_years_9 : decode cX12_years 9 = .ok (.ifCond .eq 15, 3) := by decide +kernel
theorem dX12_years_12 : decode cX12_years 12 = .ok (.iload_n 1, 1) := by decide +kernel
theorem dX12_years_13 : decode cX12_years 13 = .ok (.i2l, 1) := by decide +kernel
theorem dX12_years_14 : decode cX12_years 14 = .ok (.lconst 1, 1) := by decide +kernel
theorem dX12_years_15 : decode cX12_years 15 = .ok (.ldc2_w 424, 3) := by decide +kernel
theorem dX12_years_18 : decode cX12_years 18 = .ok (.invokestatic 156, 3) := by decide +kernel
theorem dX12_years_21 : decode cX12_years 21 = .ok (.ifCond .ne 5, 3) := by decide +kernel
theorem dX12_years_24 : decode cX12_years 24 = .ok (.iconst (-1), 1) := by decide +kernel
theorem dX12_years_25 : decode cX12_years 25 = .ok (.ireturn, 1) := by decide +kernel
theorem dX12_years_26 : decode cX12_years 26 = .ok (.aload_n 0, 1) := by decide +kernel
theorem dX12_years_27 : decode cX12_years 27 = .ok (.lload_n 2, 1) := by decide +kernel
theorem dX12_years_28 : decode cX12_years 28 = .ok (.putfield 414, 3) := by decide +kernel
theorem dX12_years_31 : decode cX12_years 31 = .ok (.iconst 0, 1) := by decide +kernel
theorem dX12_years_32 : decode cX12_years 32 = .ok (.istore 4, 2) := by decide +kernel
theorem dX12_years_34 : decode cX12_years 34 = .ok (.iload 4, 2) := by decide +kernel
theorem dX12_years_36 : decode cX12_years 36 = .ok (.iload_n 1, 1) := by decide +kernel
theorem dX12_years_37 : decode cX12_years 37 = .ok (.if_icmp .ge 13, 3) := by decide +kernel
theorem dX12_years_40 : decode cX12_years 40 = .ok (.aload_n 0, 1) := by decide +kernel
theorem dX12_years_41 : decode cX12_years 41 = .ok (.invokevirtual 426, 3) := by decide +kernel
theorem dX12_years_44 : decode cX12_years 44 = .ok (.iinc 4 1, 3) := by decide +kernel
theorem dX12_years_47 : decode cX12_years 47 = .ok (.goto (-13), 3) := by decide +kernel
theorem dX12_years_50 : decode cX12_years 50 = .ok (.aload_n 0, 1) := by decide +kernel
theorem dX12_years_51 : decode cX12_years 51 = .ok (.getfield 63, 3) := by decide +kernel
theorem dX12_years_54 : decode cX12_years 54 = .ok (.bipush 41, 2) := by decide +kernel
theorem dX12_years_56 : decode cX12_years 56 = .ok (.iaload, 1) := by decide +kernel
theorem dX12_years_57 : decode cX12_years 57 = .ok (.ireturn, 1) := by decide +kernel
theorem dX12_status_0 : decode cX12_status 0 = .ok (.aload_n 0, 1) := by decide +kernel
theorem dX12_status_1 : decode cX12_status 1 = .ok (.iconst 0, 1) := by decide +kernel
theorem dX12_status_2 : decode cX12_status 2 = .ok (.putfield 101, 3) := by decide +kernel
theorem dX12_status_5 : decode cX12_status 5 = .ok (.iload_n 1, 1) := by decide +kernel
theorem dX12_status_6 : decode cX12_status 6 = .ok (.i2l, 1) := by decide +kernel
theorem dX12_status_7 : decode cX12_status 7 = .ok (.lconst 0, 1) := by decide +kernel
theorem dX12_status_8 : decode cX12_status 8 = .ok (.ldc2_w 429, 3) := by decide +kernel
theorem dX12_status_11 : decode cX12_status 11 = .ok (.invokestatic 156, 3) := by decide +kernel
theorem dX12_status_14 : decode cX12_status 14 = .ok (.ifCond .eq 12, 3) := by decide +kernel
theorem dX12_status_17 : decode cX12_status 17 = .ok (.aload_n 0, 1) := by decide +kernel
theorem dX12_status_18 : decode cX12_status 18 = .ok (.getfield 38, 3) := by decide +kernel
theorem dX12_status_21 : decode cX12_status 21 = .ok (.iload_n 1, 1) := by decide +kernel
theorem dX12_status_22 : decode cX12_status 22 = .ok (.iaload, 1) := by decide +kernel
theorem dX12_status_23 : decode cX12_status 23 = .ok (.goto 4, 3) := by decide +kernel
theorem dX12_status_26 : decode cX12_status 26 = .ok (.iconst (-1), 1) := by decide +kernel
theorem dX12_status_27 : decode cX12_status 27 = .ok (.ireturn, 1) := by decide +kernel
theorem dX12_undo_0 : decode cX12_undo 0 = .ok (.aload_n 0, 1) := by decide +kernel
theorem dX12_undo_1 : decode cX12_undo 1 = .ok (.iconst 0, 1) := by decide +kernel
theorem dX12_undo_2 : decode cX12_undo 2 = .ok (.putfield 101, 3) := by decide +kernel
theorem dX12_undo_5 : decode cX12_undo 5 = .ok (.aload_n 0, 1) := by decide +kernel
theorem dX12_undo_6 : decode cX12_undo 6 = .ok (.getfield 260, 3) := by decide +kernel
theorem dX12_undo_9 : decode cX12_undo 9 = .ok (.ifCond .ne 5, 3) := by decide +kernel
theorem dX12_undo_12 : decode cX12_undo 12 = .ok (.iconst (-1), 1) := by decide +kernel
theorem dX12_undo_13 : decode cX12_undo 13 = .ok (.ireturn, 1) := by decide +kernel
theorem dX12_undo_14 : decode cX12_undo 14 = .ok (.aload_n 0, 1) := by decide +kernel
theorem dX12_undo_15 : decode cX12_undo 15 = .ok (.dup, 1) := by decide +kernel
theorem dX12_undo_16 : decode cX12_undo 16 = .ok (.getfield 260, 3) := by decide +kernel
theorem dX12_undo_19 : decode cX12_undo 19 = .ok (.iconst 1, 1) := by decide +kernel
theorem dX12_undo_20 : decode cX12_undo 20 = .ok (.isub, 1) := by decide +kernel
theorem dX12_undo_21 : decode cX12_undo 21 = .ok (.putfield 260, 3) := by decide +kernel
theorem dX12_undo_24 : decode cX12_undo 24 = .ok (.aload_n 0, 1) := by decide +kernel
theorem dX12_undo_25 : decode cX12_undo 25 = .ok (.getfield 72, 3) := by decide +kernel
theorem dX12_undo_28 : decode cX12_undo 28 = .ok (.sipush 256, 3) := by decide +kernel
theorem dX12_undo_31 : decode cX12_undo 31 = .ok (.aload_n 0, 1) := by decide +kernel
theorem dX12_undo_32 : decode cX12_undo 32 = .ok (.getfield 330, 3) := by decide +kernel
theorem dX12_undo_35 : decode cX12_undo 35 = .ok (.aload_n 0, 1) := by decide +kernel
theorem dX12_undo_36 : decode cX12_undo 36 = .ok (.getfield 260, 3) := by decide +kernel
theorem dX12_undo_39 : decode cX12_undo 39 = .ok (.iadd, 1) := by decide +kernel
theorem dX12_undo_40 : decode cX12_undo 40 = .ok (.bipush 40, 2) := by decide +kernel
theorem dX12_undo_42 : decode cX12_undo 42 = .ok (.irem, 1) := by decide +kernel
theorem dX12_undo_43 : decode cX12_undo 43 = .ok (.imul, 1) := by decide +kernel
theorem dX12_undo_44 : decode cX12_undo 44 = .ok (.aload_n 0, 1) := by decide +kernel
theorem dX12_undo_45 : decode cX12_undo 45 = .ok (.getfield 63, 3) := by decide +kernel
theorem dX12_undo_48 : decode cX12_undo 48 = .ok (.iconst 0, 1) := by decide +kernel
theorem dX12_undo_49 : decode cX12_undo 49 = .ok (.invokestatic 333, 3) := by decide +kernel
theorem dX12_undo_52 : decode cX12_undo 52 = .ok (.aload_n 0, 1) := by decide +kernel
theorem dX12_undo_53 : decode cX12_undo 53 = .ok (.getfield 260, 3) := by decide +kernel
theorem dX12_undo_56 : decode cX12_undo 56 = .ok (.ireturn, 1) := by decide +kernel
theorem dX12_log_0 : decode cX12_log 0 = .ok (.aload_n 0, 1) := by decide +kernel
theorem dX12_log_1 : decode cX12_log 1 = .ok (.iconst 0, 1) := by decide +kernel
theorem dX12_log_2 : decode cX12_log 2 = .ok (.putfield 101, 3) := by decide +kernel
theorem dX12_log_5 : decode cX12_log 5 = .ok (.iload_n 1, 1) := by decide +kernel
theorem dX12_log_6 : decode cX12_log 6 = .ok (.ifCond .lt 26, 3) := by decide +kernel
theorem dX12_log_9 : decode cX12_log 9 = .ok (.iload_n 1, 1) := by decide +kernel
theorem dX12_log_10 : decode cX12_log 10 = .ok (.aload_n 0, 1) := by decide +kernel
theorem dX12_log_11 : decode cX12_log 11 = .ok (.getfield 63, 3) := by decide +kernel
theorem dX12_log_14 : decode cX12_log 14 = .ok (.bipush 75, 2) := by decide +kernel
theorem dX12_log_16 : decode cX12_log 16 = .ok (.iaload, 1) := by decide +kernel
theorem dX12_log_17 : decode cX12_log 17 = .ok (.if_icmp .ge 15, 3) := by decide +kernel
theorem dX12_log_20 : decode cX12_log 20 = .ok (.iload_n 2, 1) := by decide +kernel
theorem dX12_log_21 : decode cX12_log 21 = .ok (.i2l, 1) := by decide +kernel
theorem dX12_log_22 : decode cX12_log 22 = .ok (.lconst 0, 1) := by decide +kernel
theorem dX12_log_23 : decode cX12_log 23 = .ok (.ldc2_w 219, 3) := by decide +kernel
theorem dX12_log_26 : decode cX12_log 26 = .ok (.invokestatic 156, 3) := by decide +kernel
theorem dX12_log_29 : decode cX12_log 29 = .ok (.ifCond .ne 7, 3) := by decide +kernel
theorem dX12_log_32 : decode cX12_log 32 = .ok (.ldc_w 431, 3) := by decide +kernel
theorem dX12_log_35 : decode cX12_log 35 = .ok (.ireturn, 1) := by decide +kernel
theorem dX12_log_36 : decode cX12_log 36 = .ok (.aload_n 0, 1) := by decide +kernel
theorem dX12_log_37 : decode cX12_log 37 = .ok (.getfield 63, 3) := by decide +kernel
theorem dX12_log_40 : decode cX12_log 40 = .ok (.bipush 76, 2) := by decide +kernel
theorem dX12_log_42 : decode cX12_log 42 = .ok (.iconst 3, 1) := by decide +kernel
theorem dX12_log_43 : decode cX12_log 43 = .ok (.aload_n 0, 1) := by decide +kernel
theorem dX12_log_44 : decode cX12_log 44 = .ok (.getfield 63, 3) := by decide +kernel
theorem dX12_log_47 : decode cX12_log 47 = .ok (.bipush 75, 2) := by decide +kernel
theorem dX12_log_49 : decode cX12_log 49 = .ok (.iaload, 1) := by decide +kernel
theorem dX12_log_50 : decode cX12_log 50 = .ok (.iconst 1, 1) := by decide +kernel
theorem dX12_log_51 : decode cX12_log 51 = .ok (.isub, 1) := by decide +kernel
theorem dX12_log_52 : decode cX12_log 52 = .ok (.iload_n 1, 1) := by decide +kernel
theorem dX12_log_53 : decode cX12_log 53 = .ok (.isub, 1) := by decide +kernel
theorem dX12_log_54 : decode cX12_log 54 = .ok (.imul, 1) := by decide +kernel
theorem dX12_log_55 : decode cX12_log 55 = .ok (.iadd, 1) := by decide +kernel
theorem dX12_log_56 : decode cX12_log 56 = .ok (.iload_n 2, 1) := by decide +kernel
theorem dX12_log_57 : decode cX12_log 57 = .ok (.iadd, 1) := by decide +kernel
theorem dX12_log_58 : decode cX12_log 58 = .ok (.iaload, 1) := by decide +kernel
theorem dX12_log_59 : decode cX12_log 59 = .ok (.ireturn, 1) := by decide +kernel
theorem dX12_image_0 : decode cX12_image 0 = .ok (.aload_n 0, 1) := by decide +kernel
theorem dX12_image_1 : decode cX12_image 1 = .ok (.iconst 0, 1) := by decide +kernel
theorem dX12_image_2 : decode cX12_image 2 = .ok (.putfield 101, 3) := by decide +kernel
theorem dX12_image_5 : decode cX12_image 5 = .ok (.aload_n 0, 1) := by decide +kernel
theorem dX12_image_6 : decode cX12_image 6 = .ok (.getfield 234, 3) := by decide +kernel
theorem dX12_image_9 : decode cX12_image 9 = .ok (.ifCond .ne 5, 3) := by decide +kernel
theorem dX12_image_12 : decode cX12_image 12 = .ok (.iconst (-1), 1) := by decide +kernel
theorem dX12_image_13 : decode cX12_image 13 = .ok (.ireturn, 1) := by decide +kernel
theorem dX12_image_14 : decode cX12_image 14 = .ok (.aload_n 0, 1) := by decide +kernel
theorem dX12_image_15 : decode cX12_image 15 = .ok (.getfield 63, 3) := by decide +kernel
theorem dX12_image_18 : decode cX12_image 18 = .ok (.iconst 0, 1) := by decide +kernel
theorem dX12_image_19 : decode cX12_image 19 = .ok (.aload_n 0, 1) := by decide +kernel
theorem dX12_image_20 : decode cX12_image 20 = .ok (.getfield 69, 3) := by decide +kernel
theorem dX12_image_23 : decode cX12_image 23 = .ok (.iconst 0, 1) := by decide +kernel
theorem dX12_image_24 : decode cX12_image 24 = .ok (.invokestatic 333, 3) := by decide +kernel
theorem dX12_image_27 : decode cX12_image 27 = .ok (.aload_n 0, 1) := by decide +kernel
theorem dX12_image_28 : decode cX12_image 28 = .ok (.iconst 1, 1) := by decide +kernel
theorem dX12_image_29 : decode cX12_image 29 = .ok (.putfield 263, 3) := by decide +kernel
theorem dX12_image_32 : decode cX12_image 32 = .ok (.aload_n 0, 1) := by decide +kernel
theorem dX12_image_33 : decode cX12_image 33 = .ok (.getfield 63, 3) := by decide +kernel
theorem dX12_image_36 : decode cX12_image 36 = .ok (.bipush 41, 2) := by decide +kernel
theorem dX12_image_38 : decode cX12_image 38 = .ok (.iaload, 1) := by decide +kernel
theorem dX12_image_39 : decode cX12_image 39 = .ok (.ireturn, 1) := by decide +kernel
theorem dX12_back_0 : decode cX12_back 0 = .ok (.aload_n 0, 1) := by decide +kernel
theorem dX12_back_1 : decode cX12_back 1 = .ok (.iconst 0, 1) := by decide +kernel
theorem dX12_back_2 : decode cX12_back 2 = .ok (.putfield 101, 3) := by decide +kernel
theorem dX12_back_5 : decode cX12_back 5 = .ok (.aload_n 0, 1) := by decide +kernel
theorem dX12_back_6 : decode cX12_back 6 = .ok (.getfield 263, 3) := by decide +kernel
theorem dX12_back_9 : decode cX12_back 9 = .ok (.ifCond .ne 5, 3) := by decide +kernel
theorem dX12_back_12 : decode cX12_back 12 = .ok (.iconst (-1), 1) := by decide +kernel
theorem dX12_back_13 : decode cX12_back 13 = .ok (.ireturn, 1) := by decide +kernel
theorem dX12_back_14 : decode cX12_back 14 = .ok (.aload_n 0, 1) := by decide +kernel
theorem dX12_back_15 : decode cX12_back 15 = .ok (.getfield 69, 3) := by decide +kernel
theorem dX12_back_18 : decode cX12_back 18 = .ok (.iconst 0, 1) := by decide +kernel
theorem dX12_back_19 : decode cX12_back 19 = .ok (.aload_n 0, 1) := by decide +kernel
theorem dX12_back_20 : decode cX12_back 20 = .ok (.getfield 63, 3) := by decide +kernel
theorem dX12_back_23 : decode cX12_back 23 = .ok (.iconst 0, 1) := by decide +kernel
theorem dX12_back_24 : decode cX12_back 24 = .ok (.invokestatic 333, 3) := by decide +kernel
theorem dX12_back_27 : decode cX12_back 27 = .ok (.aload_n 0, 1) := by decide +kernel
theorem dX12_back_28 : decode cX12_back 28 = .ok (.iconst 0, 1) := by decide +kernel
theorem dX12_back_29 : decode cX12_back 29 = .ok (.putfield 260, 3) := by decide +kernel
theorem dX12_back_32 : decode cX12_back 32 = .ok (.aload_n 0, 1) := by decide +kernel
theorem dX12_back_33 : decode cX12_back 33 = .ok (.getfield 63, 3) := by decide +kernel
theorem dX12_back_36 : decode cX12_back 36 = .ok (.bipush 41, 2) := by decide +kernel
theorem dX12_back_38 : decode cX12_back 38 = .ok (.iaload, 1) := by decide +kernel
theorem dX12_back_39 : decode cX12_back 39 = .ok (.ireturn, 1) := by decide +kernel
theorem dX12_shareOf_0 : decode cX12_shareOf 0 = .ok (.aload_n 1, 1) := by decide +kernel
theorem dX12_shareOf_1 : decode cX12_shareOf 1 = .ok (.bipush 37, 2) := by decide +kernel
theorem dX12_shareOf_3 : decode cX12_shareOf 3 = .ok (.iload_n 2, 1) := by decide +kernel
theorem dX12_shareOf_4 : decode cX12_shareOf 4 = .ok (.iadd, 1) := by decide +kernel
theorem dX12_shareOf_5 : decode cX12_shareOf 5 = .ok (.iaload, 1) := by decide +kernel
theorem dX12_shareOf_6 : decode cX12_shareOf 6 = .ok (.iconst 1, 1) := by decide +kernel
theorem dX12_shareOf_7 : decode cX12_shareOf 7 = .ok (.if_icmp .ne 7, 3) := by decide +kernel
theorem dX12_shareOf_10 : decode cX12_shareOf 10 = .ok (.iconst 0, 1) := by decide +kernel
theorem dX12_shareOf_11 : decode cX12_shareOf 11 = .ok (.goto 24, 3) := by decide +kernel
theorem dX12_shareOf_14 : decode cX12_shareOf 14 = .ok (.aload_n 0, 1) := by decide +kernel
theorem dX12_shareOf_15 : decode cX12_shareOf 15 = .ok (.getfield 35, 3) := by decide +kernel
theorem dX12_shareOf_18 : decode cX12_shareOf 18 = .ok (.iconst 2, 1) := by decide +kernel
theorem dX12_shareOf_19 : decode cX12_shareOf 19 = .ok (.iload_n 2, 1) := by decide +kernel
theorem dX12_shareOf_20 : decode cX12_shareOf 20 = .ok (.imul, 1) := by decide +kernel
theorem dX12_shareOf_21 : decode cX12_shareOf 21 = .ok (.iaload, 1) := by decide +kernel
theorem dX12_shareOf_22 : decode cX12_shareOf 22 = .ok (.aload_n 0, 1) := by decide +kernel
theorem dX12_shareOf_23 : decode cX12_shareOf 23 = .ok (.getfield 35, 3) := by decide +kernel
theorem dX12_shareOf_26 : decode cX12_shareOf 26 = .ok (.iconst 2, 1) := by decide +kernel
theorem dX12_shareOf_27 : decode cX12_shareOf 27 = .ok (.iload_n 2, 1) := by decide +kernel
theorem dX12_shareOf_28 : decode cX12_shareOf 28 = .ok (.imul, 1) := by decide +kernel
theorem dX12_shareOf_29 : decode cX12_shareOf 29 = .ok (.iconst 1, 1) := by decide +kernel
theorem dX12_shareOf_30 : decode cX12_shareOf 30 = .ok (.iadd, 1) := by decide +kernel
theorem dX12_shareOf_31 : decode cX12_shareOf 31 = .ok (.iaload, 1) := by decide +kernel
theorem dX12_shareOf_32 : decode cX12_shareOf 32 = .ok (.invokestatic 432, 3) := by decide +kernel
theorem dX12_shareOf_35 : decode cX12_shareOf 35 = .ok (.ireturn, 1) := by decide +kernel
theorem dX12_laysShares_0 : decode cX12_laysShares 0 = .ok (.iconst 0, 1) := by decide +kernel
theorem dX12_laysShares_1 : decode cX12_laysShares 1 = .ok (.istore_n 2, 1) := by decide +kernel
theorem dX12_laysShares_2 : decode cX12_laysShares 2 = .ok (.iload_n 2, 1) := by decide +kernel
theorem dX12_laysShares_3 : decode cX12_laysShares 3 = .ok (.aload_n 0, 1) := by decide +kernel
theorem dX12_laysShares_4 : decode cX12_laysShares 4 = .ok (.getfield 237, 3) := by decide +kernel
theorem dX12_laysShares_7 : decode cX12_laysShares 7 = .ok (.if_icmp .ge 42, 3) := by decide +kernel
theorem dX12_laysShares_10 : decode cX12_laysShares 10 = .ok (.aload_n 0, 1) := by decide +kernel
theorem dX12_laysShares_11 : decode cX12_laysShares 11 = .ok (.getfield 82, 3) := by decide +kernel
theorem dX12_laysShares_14 : decode cX12_laysShares 14 = .ok (.iload_n 2, 1) := by decide +kernel
theorem dX12_laysShares_15 : decode cX12_laysShares 15 = .ok (.aload_n 0, 1) := by decide +kernel
theorem dX12_laysShares_16 : decode cX12_laysShares 16 = .ok (.aload_n 1, 1) := by decide +kernel
theorem dX12_laysShares_17 : decode cX12_laysShares 17 = .ok (.iload_n 2, 1) := by decide +kernel
theorem dX12_laysShares_18 : decode cX12_laysShares 18 = .ok (.invokevirtual 435, 3) := by decide +kernel
theorem dX12_laysShares_21 : decode cX12_laysShares 21 = .ok (.iastore, 1) := by decide +kernel
theorem dX12_laysShares_22 : decode cX12_laysShares 22 = .ok (.aload_n 0, 1) := by decide +kernel
theorem dX12_laysShares_23 : decode cX12_laysShares 23 = .ok (.getfield 85, 3) := by decide +kernel
theorem dX12_laysShares_26 : decode cX12_laysShares 26 = .ok (.iload_n 2, 1) := by decide +kernel
theorem dX12_laysShares_27 : decode cX12_laysShares 27 = .ok (.aload_n 1, 1) := by decide +kernel
theorem dX12_laysShares_28 : decode cX12_laysShares 28 = .ok (.bipush 37, 2) := by decide +kernel
theorem dX12_laysShares_30 : decode cX12_laysShares 30 = .ok (.iload_n 2, 1) := by decide +kernel
theorem dX12_laysShares_31 : decode cX12_laysShares 31 = .ok (.iadd, 1) := by decide +kernel
theorem dX12_laysShares_32 : decode cX12_laysShares 32 = .ok (.iaload, 1) := by decide +kernel
theorem dX12_laysShares_33 : decode cX12_laysShares 33 = .ok (.iconst 1, 1) := by decide +kernel
theorem dX12_laysShares_34 : decode cX12_laysShares 34 = .ok (.if_icmp .ne 7, 3) := by decide +kernel
theorem dX12_laysShares_37 : decode cX12_laysShares 37 = .ok (.iconst 1, 1) := by decide +kernel
theorem dX12_laysShares_38 : decode cX12_laysShares 38 = .ok (.goto 4, 3) := by decide +kernel
theorem dX12_laysShares_41 : decode cX12_laysShares 41 = .ok (.iconst 0, 1) := by decide +kernel
theorem dX12_laysShares_42 : decode cX12_laysShares 42 = .ok (.bastore, 1) := by decide +kernel
theorem dX12_laysShares_43 : decode cX12_laysShares 43 = .ok (.iinc 2 1, 3) := by decide +kernel
theorem dX12_laysShares_46 : decode cX12_laysShares 46 = .ok (.goto (-44), 3) := by decide +kernel
theorem dX12_laysShares_49 : decode cX12_laysShares 49 = .ok (.return_, 1) := by decide +kernel
theorem dX12_power_0 : decode cX12_power 0 = .ok (.iconst 1, 1) := by decide +kernel
theorem dX12_power_1 : decode cX12_power 1 = .ok (.istore_n 2, 1) := by decide +kernel
theorem dX12_power_2 : decode cX12_power 2 = .ok (.iconst 0, 1) := by decide +kernel
theorem dX12_power_3 : decode cX12_power 3 = .ok (.istore_n 3, 1) := by decide +kernel
theorem dX12_power_4 : decode cX12_power 4 = .ok (.iload_n 3, 1) := by decide +kernel
theorem dX12_power_5 : decode cX12_power 5 = .ok (.iload_n 1, 1) := by decide +kernel
theorem dX12_power_6 : decode cX12_power 6 = .ok (.if_icmp .ge 16, 3) := by decide +kernel
theorem dX12_power_9 : decode cX12_power 9 = .ok (.iload_n 2, 1) := by decide +kernel
theorem dX12_power_10 : decode cX12_power 10 = .ok (.aload_n 0, 1) := by decide +kernel
theorem dX12_power_11 : decode cX12_power 11 = .ok (.getfield 240, 3) := by decide +kernel
theorem dX12_power_14 : decode cX12_power 14 = .ok (.imul, 1) := by decide +kernel
theorem dX12_power_15 : decode cX12_power 15 = .ok (.istore_n 2, 1) := by decide +kernel
theorem dX12_power_16 : decode cX12_power 16 = .ok (.iinc 3 1, 3) := by decide +kernel
theorem dX12_power_19 : decode cX12_power 19 = .ok (.goto (-15), 3) := by decide +kernel
theorem dX12_power_22 : decode cX12_power 22 = .ok (.iload_n 2, 1) := by decide +kernel
theorem dX12_power_23 : decode cX12_power 23 = .ok (.ireturn, 1) := by decide +kernel
theorem dX12_coreIn_0 : decode cX12_coreIn 0 = .ok (.iload_n 1, 1) := by decide +kernel
theorem dX12_coreIn_1 : decode cX12_coreIn 1 = .ok (.aload_n 0, 1) := by decide +kernel
theorem dX12_coreIn_2 : decode cX12_coreIn 2 = .ok (.aload_n 0, 1) := by decide +kernel
theorem dX12_coreIn_3 : decode cX12_coreIn 3 = .ok (.getfield 237, 3) := by decide +kernel
theorem dX12_coreIn_6 : decode cX12_coreIn 6 = .ok (.iconst 1, 1) := by decide +kernel
theorem dX12_coreIn_7 : decode cX12_coreIn 7 = .ok (.isub, 1) := by decide +kernel
theorem dX12_coreIn_8 : decode cX12_coreIn 8 = .ok (.iload_n 2, 1) := by decide +kernel
theorem dX12_coreIn_9 : decode cX12_coreIn 9 = .ok (.isub, 1) := by decide +kernel
theorem dX12_coreIn_10 : decode cX12_coreIn 10 = .ok (.invokevirtual 438, 3) := by decide +kernel
theorem dX12_coreIn_13 : decode cX12_coreIn 13 = .ok (.idiv, 1) := by decide +kernel
theorem dX12_coreIn_14 : decode cX12_coreIn 14 = .ok (.aload_n 0, 1) := by decide +kernel
theorem dX12_coreIn_15 : decode cX12_coreIn 15 = .ok (.getfield 240, 3) := by decide +kernel
theorem dX12_coreIn_18 : decode cX12_coreIn 18 = .ok (.irem, 1) := by decide +kernel
theorem dX12_coreIn_19 : decode cX12_coreIn 19 = .ok (.ireturn, 1) := by decide +kernel
theorem dX12_wayOf_0 : decode cX12_wayOf 0 = .ok (.iconst 0, 1) := by decide +kernel
theorem dX12_wayOf_1 : decode cX12_wayOf 1 = .ok (.istore_n 2, 1) := by decide +kernel
theorem dX12_wayOf_2 : decode cX12_wayOf 2 = .ok (.iconst 0, 1) := by decide +kernel
theorem dX12_wayOf_3 : decode cX12_wayOf 3 = .ok (.istore_n 3, 1) := by decide +kernel
theorem dX12_wayOf_4 : decode cX12_wayOf 4 = .ok (.iload_n 3, 1) := by decide +kernel
theorem dX12_wayOf_5 : decode cX12_wayOf 5 = .ok (.aload_n 0, 1) := by decide +kernel
theorem dX12_wayOf_6 : decode cX12_wayOf 6 = .ok (.getfield 237, 3) := by decide +kernel
theorem dX12_wayOf_9 : decode cX12_wayOf 9 = .ok (.if_icmp .ge 23, 3) := by decide +kernel
theorem dX12_wayOf_12 : decode cX12_wayOf 12 = .ok (.iload_n 2, 1) := by decide +kernel
theorem dX12_wayOf_13 : decode cX12_wayOf 13 = .ok (.aload_n 0, 1) := by decide +kernel
theorem dX12_wayOf_14 : decode cX12_wayOf 14 = .ok (.getfield 240, 3) := by decide +kernel
theorem dX12_wayOf_17 : decode cX12_wayOf 17 = .ok (.imul, 1) := by decide +kernel
theorem dX12_wayOf_18 : decode cX12_wayOf 18 = .ok (.aload_n 1, 1) := by decide +kernel
theorem dX12_wayOf_19 : decode cX12_wayOf 19 = .ok (.bipush 21, 2) := by decide +kernel
theorem dX12_wayOf_21 : decode cX12_wayOf 21 = .ok (.iload_n 3, 1) := by decide +kernel
theorem dX12_wayOf_22 : decode cX12_wayOf 22 = .ok (.iadd, 1) := by decide +kernel
theorem dX12_wayOf_23 : decode cX12_wayOf 23 = .ok (.iaload, 1) := by decide +kernel
theorem dX12_wayOf_24 : decode cX12_wayOf 24 = .ok (.iadd, 1) := by decide +kernel
theorem dX12_wayOf_25 : decode cX12_wayOf 25 = .ok (.istore_n 2, 1) := by decide +kernel
theorem dX12_wayOf_26 : decode cX12_wayOf 26 = .ok (.iinc 3 1, 3) := by decide +kernel
theorem dX12_wayOf_29 : decode cX12_wayOf 29 = .ok (.goto (-25), 3) := by decide +kernel
theorem dX12_wayOf_32 : decode cX12_wayOf 32 = .ok (.iload_n 2, 1) := by decide +kernel
theorem dX12_wayOf_33 : decode cX12_wayOf 33 = .ok (.ireturn, 1) := by decide +kernel
theorem dX12_pricePut_0 : decode cX12_pricePut 0 = .ok (.iconst 0, 1) := by decide +kernel
theorem dX12_pricePut_1 : decode cX12_pricePut 1 = .ok (.istore_n 2, 1) := by decide +kernel
theorem dX12_pricePut_2 : decode cX12_pricePut 2 = .ok (.iconst 0, 1) := by decide +kernel
theorem dX12_pricePut_3 : decode cX12_pricePut 3 = .ok (.istore_n 3, 1) := by decide +kernel
theorem dX12_pricePut_4 : decode cX12_pricePut 4 = .ok (.iload_n 3, 1) := by decide +kernel
theorem dX12_pricePut_5 : decode cX12_pricePut 5 = .ok (.aload_n 0, 1) := by decide +kernel
theorem dX12_pricePut_6 : decode cX12_pricePut 6 = .ok (.getfield 234, 3) := by decide +kernel
theorem dX12_pricePut_9 : decode cX12_pricePut 9 = .ok (.if_icmp .ge 206, 3) := by decide +kernel
theorem dX12_pricePut_12 : decode cX12_pricePut 12 = .ok (.iconst 0, 1) := by decide +kernel
theorem dX12_pricePut_13 : decode cX12_pricePut 13 = .ok (.istore 4, 2) := by decide +kernel
theorem dX12_pricePut_15 : decode cX12_pricePut 15 = .ok (.iconst 0, 1) := by decide +kernel
theorem dX12_pricePut_16 : decode cX12_pricePut 16 = .ok (.istore 5, 2) := by decide +kernel
theorem dX12_pricePut_18 : decode cX12_pricePut 18 = .ok (.aload_n 0, 1) := by decide +kernel
theorem dX12_pricePut_19 : decode cX12_pricePut 19 = .ok (.iload_n 3, 1) := by decide +kernel
theorem dX12_pricePut_20 : decode cX12_pricePut 20 = .ok (.invokevirtual 267, 3) := by decide +kernel
theorem dX12_pricePut_23 : decode cX12_pricePut 23 = .ok (.istore 6, 2) := by decide +kernel
theorem dX12_pricePut_25 : decode cX12_pricePut 25 = .ok (.iload 6, 2) := by decide +kernel
theorem dX12_pricePut_27 : decode cX12_pricePut 27 = .ok (.aload_n 0, 1) := by decide +kernel
theorem dX12_pricePut_28 : decode cX12_pricePut 28 = .ok (.iload_n 3, 1) := by decide +kernel
theorem dX12_pricePut_29 : decode cX12_pricePut 29 = .ok (.invokevirtual 267, 3) := by decide +kernel
theorem dX12_pricePut_32 : decode cX12_pricePut 32 = .ok (.aload_n 0, 1) := by decide +kernel
theorem dX12_pricePut_33 : decode cX12_pricePut 33 = .ok (.getfield 23, 3) := by decide +kernel
theorem dX12_pricePut_36 : decode cX12_pricePut 36 = .ok (.iconst 4, 1) := by decide +kernel
theorem dX12_pricePut_37 : decode cX12_pricePut 37 = .ok (.iload_n 3, 1) := by decide +kernel
theorem dX12_pricePut_38 : decode cX12_pricePut 38 = .ok (.imul, 1) := by decide +kernel
theorem dX12_pricePut_39 : decode cX12_pricePut 39 = .ok (.iaload, 1) := by decide +kernel
theorem dX12_pricePut_40 : decode cX12_pricePut 40 = .ok (.iadd, 1) := by decide +kernel
theorem dX12_pricePut_41 : decode cX12_pricePut 41 = .ok (.if_icmp .ge 127, 3) := by decide +kernel
theorem dX12_pricePut_44 : decode cX12_pricePut 44 = .ok (.iconst 0, 1) := by decide +kernel
theorem dX12_pricePut_45 : decode cX12_pricePut 45 = .ok (.istore 7, 2) := by decide +kernel
theorem dX12_pricePut_47 : decode cX12_pricePut 47 = .ok (.iconst 0, 1) := by decide +kernel
theorem dX12_pricePut_48 : decode cX12_pricePut 48 = .ok (.istore 8, 2) := by decide +kernel
theorem dX12_pricePut_50 : decode cX12_pricePut 50 = .ok (.iconst 0, 1) := by decide +kernel
theorem dX12_pricePut_51 : decode cX12_pricePut 51 = .ok (.istore 9, 2) := by decide +kernel
theorem dX12_pricePut_53 : decode cX12_pricePut 53 = .ok (.iload 9, 2) := by decide +kernel
theorem dX12_pricePut_55 : decode cX12_pricePut 55 = .ok (.aload_n 0, 1) := by decide +kernel
theorem dX12_pricePut_56 : decode cX12_pricePut 56 = .ok (.getfield 237, 3) := by decide +kernel
theorem dX12_pricePut_59 : decode cX12_pricePut 59 = .ok (.if_icmp .ge 58, 3) := by decide +kernel
theorem dX12_pricePut_62 : decode cX12_pricePut 62 = .ok (.aload_n 0, 1) := by decide +kernel
theorem dX12_pricePut_63 : decode cX12_pricePut 63 = .ok (.getfield 89, 3) := by decide +kernel
theorem dX12_pricePut_66 : decode cX12_pricePut 66 = .ok (.iload 9, 2) := by decide +kernel
theorem dX12_pricePut_68 : decode cX12_pricePut 68 = .ok (.iaload, 1) := by decide +kernel
theorem dX12_pricePut_69 : decode cX12_pricePut 69 = .ok (.iload 6, 2) := by decide +kernel
theorem dX12_pricePut_71 : decode cX12_pricePut 71 = .ok (.if_icmp .eq 6, 3) := by decide +kernel
theorem dX12_pricePut_74 : decode cX12_pricePut 74 = .ok (.goto 37, 3) := by decide +kernel
theorem dX12_pricePut_77 : decode cX12_pricePut 77 = .ok (.iload 7, 2) := by decide +kernel
theorem dX12_pricePut_79 : decode cX12_pricePut 79 = .ok (.aload_n 0, 1) := by decide +kernel
theorem dX12_pricePut_80 : decode cX12_pricePut 80 = .ok (.getfield 82, 3) := by decide +kernel
theorem dX12_pricePut_83 : decode cX12_pricePut 83 = .ok (.iload 9, 2) := by decide +kernel
theorem dX12_pricePut_85 : decode cX12_pricePut 85 = .ok (.iaload, 1) := by decide +kernel
theorem dX12_pricePut_86 : decode cX12_pricePut 86 = .ok (.iadd, 1) := by decide +kernel
theorem dX12_pricePut_87 : decode cX12_pricePut 87 = .ok (.istore 7, 2) := by decide +kernel
theorem dX12_pricePut_89 : decode cX12_pricePut 89 = .ok (.iload 8, 2) := by decide +kernel
theorem dX12_pricePut_91 : decode cX12_pricePut 91 = .ok (.ifCond .ne 13, 3) := by decide +kernel
theorem dX12_pricePut_94 : decode cX12_pricePut 94 = .ok (.aload_n 0, 1) := by decide +kernel
theorem dX12_pricePut_95 : decode cX12_pricePut 95 = .ok (.getfield 85, 3) := by decide +kernel
theorem dX12_pricePut_98 : decode cX12_pricePut 98 = .ok (.iload 9, 2) := by decide +kernel
theorem dX12_pricePut_100 : decode cX12_pricePut 100 = .ok (.baload, 1) := by decide +kernel
theorem dX12_pricePut_101 : decode cX12_pricePut 101 = .ok (.ifCond .ne 7, 3) := by decide +kernel
theorem dX12_pricePut_104 : decode cX12_pricePut 104 = .ok (.iconst 1, 1) := by decide +kernel
theorem dX12_pricePut_105 : decode cX12_pricePut 105 = .ok (.goto 4, 3) := by decide +kernel
theorem dX12_pricePut_108 : decode cX12_pricePut 108 = .ok (.iconst 0, 1) := by decide +kernel
theorem dX12_pricePut_109 : decode cX12_pricePut 109 = .ok (.istore 8, 2) := by decide +kernel
theorem dX12_pricePut_111 : decode cX12_pricePut 111 = .ok (.iinc 9 1, 3) := by decide +kernel
theorem dX12_pricePut_114 : decode cX12_pricePut 114 = .ok (.goto (-61), 3) := by decide +kernel
theorem dX12_pricePut_117 : decode cX12_pricePut 117 = .ok (.iload 7, 2) := by decide +kernel
theorem dX12_pricePut_119 : decode cX12_pricePut 119 = .ok (.iload 4, 2) := by decide +kernel
theorem dX12_pricePut_121 : decode cX12_pricePut 121 = .ok (.if_icmp .le 8, 3) := by decide +kernel
theorem dX12_pricePut_124 : decode cX12_pricePut 124 = .ok (.iload 7, 2) := by decide +kernel
theorem dX12_pricePut_126 : decode cX12_pricePut 126 = .ok (.goto 5, 3) := by decide +kernel
theorem dX12_pricePut_129 : decode cX12_pricePut 129 = .ok (.iload 4, 2) := by decide +kernel
theorem dX12_pricePut_131 : decode cX12_pricePut 131 = .ok (.istore 4, 2) := by decide +kernel
theorem dX12_pricePut_133 : decode cX12_pricePut 133 = .ok (.iload 5, 2) := by decide +kernel
theorem dX12_pricePut_135 : decode cX12_pricePut 135 = .ok (.iload 7, 2) := by decide +kernel
theorem dX12_pricePut_137 : decode cX12_pricePut 137 = .ok (.iadd, 1) := by decide +kernel
theorem dX12_pricePut_138 : decode cX12_pricePut 138 = .ok (.istore 5, 2) := by decide +kernel
theorem dX12_pricePut_140 : decode cX12_pricePut 140 = .ok (.iload_n 2, 1) := by decide +kernel
theorem dX12_pricePut_141 : decode cX12_pricePut 141 = .ok (.iload 8, 2) := by decide +kernel
theorem dX12_pricePut_143 : decode cX12_pricePut 143 = .ok (.ifCond .eq 16, 3) := by decide +kernel
theorem dX12_pricePut_146 : decode cX12_pricePut 146 = .ok (.aload_n 0, 1) := by decide +kernel
theorem dX12_pricePut_147 : decode cX12_pricePut 147 = .ok (.getfield 23, 3) := by decide +kernel
theorem dX12_pricePut_150 : decode cX12_pricePut 150 = .ok (.iconst 4, 1) := by decide +kernel
theorem dX12_pricePut_151 : decode cX12_pricePut 151 = .ok (.iload_n 3, 1) := by decide +kernel
theorem dX12_pricePut_152 : decode cX12_pricePut 152 = .ok (.imul, 1) := by decide +kernel
theorem dX12_pricePut_153 : decode cX12_pricePut 153 = .ok (.iconst 1, 1) := by decide +kernel
theorem dX12_pricePut_154 : decode cX12_pricePut 154 = .ok (.iadd, 1) := by decide +kernel
theorem dX12_pricePut_155 : decode cX12_pricePut 155 = .ok (.iaload, 1) := by decide +kernel
theorem dX12_pricePut_156 : decode cX12_pricePut 156 = .ok (.goto 4, 3) := by decide +kernel
theorem dX12_pricePut_159 : decode cX12_pricePut 159 = .ok (.iconst 0, 1) := by decide +kernel
theorem dX12_pricePut_160 : decode cX12_pricePut 160 = .ok (.iadd, 1) := by decide +kernel
theorem dX12_pricePut_161 : decode cX12_pricePut 161 = .ok (.istore_n 2, 1) := by decide +kernel
theorem dX12_pricePut_162 : decode cX12_pricePut 162 = .ok (.iinc 6 1, 3) := by decide +kernel
theorem dX12_pricePut_165 : decode cX12_pricePut 165 = .ok (.goto (-140), 3) := by decide +kernel
theorem dX12_pricePut_168 : decode cX12_pricePut 168 = .ok (.aload_n 0, 1) := by decide +kernel
theorem dX12_pricePut_169 : decode cX12_pricePut 169 = .ok (.iload_n 3, 1) := by decide +kernel
theorem dX12_pricePut_170 : decode cX12_pricePut 170 = .ok (.iload 4, 2) := by decide +kernel
theorem dX12_pricePut_172 : decode cX12_pricePut 172 = .ok (.invokevirtual 296, 3) := by decide +kernel
theorem dX12_pricePut_175 : decode cX12_pricePut 175 = .ok (.istore 6, 2) := by decide +kernel
theorem dX12_pricePut_177 : decode cX12_pricePut 177 = .ok (.iload 6, 2) := by decide +kernel
theorem dX12_pricePut_179 : decode cX12_pricePut 179 = .ok (.aload_n 0, 1) := by decide +kernel
theorem dX12_pricePut_180 : decode cX12_pricePut 180 = .ok (.aload_n 1, 1) := by decide +kernel
theorem dX12_pricePut_181 : decode cX12_pricePut 181 = .ok (.iload_n 3, 1) := by decide +kernel
theorem dX12_pricePut_182 : decode cX12_pricePut 182 = .ok (.invokevirtual 277, 3) := by decide +kernel
theorem dX12_pricePut_185 : decode cX12_pricePut 185 = .ok (.if_icmp .le 5, 3) := by decide +kernel
theorem dX12_pricePut_188 : decode cX12_pricePut 188 = .ok (.iconst (-1), 1) := by decide +kernel
theorem dX12_pricePut_189 : decode cX12_pricePut 189 = .ok (.ireturn, 1) := by decide +kernel
theorem dX12_pricePut_190 : decode cX12_pricePut 190 = .ok (.iload_n 2, 1) := by decide +kernel
theorem dX12_pricePut_191 : decode cX12_pricePut 191 = .ok (.iload 5, 2) := by decide +kernel
theorem dX12_pricePut_193 : decode cX12_pricePut 193 = .ok (.aload_n 0, 1) := by decide +kernel
theorem dX12_pricePut_194 : decode cX12_pricePut 194 = .ok (.iload_n 3, 1) := by decide +kernel
theorem dX12_pricePut_195 : decode cX12_pricePut 195 = .ok (.aload_n 0, 1) := by decide +kernel
theorem dX12_pricePut_196 : decode cX12_pricePut 196 = .ok (.aload_n 1, 1) := by decide +kernel
theorem dX12_pricePut_197 : decode cX12_pricePut 197 = .ok (.iload_n 3, 1) := by decide +kernel
theorem dX12_pricePut_198 : decode cX12_pricePut 198 = .ok (.iload 6, 2) := by decide +kernel
theorem dX12_pricePut_200 : decode cX12_pricePut 200 = .ok (.invokevirtual 309, 3) := by decide +kernel
theorem dX12_pricePut_203 : decode cX12_pricePut 203 = .ok (.invokevirtual 316, 3) := by decide +kernel
theorem dX12_pricePut_206 : decode cX12_pricePut 206 = .ok (.imul, 1) := by decide +kernel
theorem dX12_pricePut_207 : decode cX12_pricePut 207 = .ok (.iadd, 1) := by decide +kernel
theorem dX12_pricePut_208 : decode cX12_pricePut 208 = .ok (.istore_n 2, 1) := by decide +kernel
theorem dX12_pricePut_209 : decode cX12_pricePut 209 = .ok (.iinc 3 1, 3) := by decide +kernel
theorem dX12_pricePut_212 : decode cX12_pricePut 212 = .ok (.goto (-208), 3) := by decide +kernel
theorem dX12_pricePut_215 : decode cX12_pricePut 215 = .ok (.iload_n 2, 1) := by decide +kernel
theorem dX12_pricePut_216 : decode cX12_pricePut 216 = .ok (.ireturn, 1) := by decide +kernel
theorem dX12_priceOf_0 : decode cX12_priceOf 0 = .ok (.iconst 0, 1) := by decide +kernel
theorem dX12_priceOf_1 : decode cX12_priceOf 1 = .ok (.istore_n 3, 1) := by decide +kernel
theorem dX12_priceOf_2 : decode cX12_priceOf 2 = .ok (.iload_n 3, 1) := by decide +kernel
theorem dX12_priceOf_3 : decode cX12_priceOf 3 = .ok (.aload_n 0, 1) := by decide +kernel
theorem dX12_priceOf_4 : decode cX12_priceOf 4 = .ok (.getfield 237, 3) := by decide +kernel
theorem dX12_priceOf_7 : decode cX12_priceOf 7 = .ok (.if_icmp .ge 21, 3) := by decide +kernel
theorem dX12_priceOf_10 : decode cX12_priceOf 10 = .ok (.aload_n 0, 1) := by decide +kernel
theorem dX12_priceOf_11 : decode cX12_priceOf 11 = .ok (.getfield 89, 3) := by decide +kernel
theorem dX12_priceOf_14 : decode cX12_priceOf 14 = .ok (.iload_n 3, 1) := by decide +kernel
theorem dX12_priceOf_15 : decode cX12_priceOf 15 = .ok (.aload_n 0, 1) := by decide +kernel
theorem dX12_priceOf_16 : decode cX12_priceOf 16 = .ok (.iload_n 2, 1) := by decide +kernel
theorem dX12_priceOf_17 : decode cX12_priceOf 17 = .ok (.iload_n 3, 1) := by decide +kernel
theorem dX12_priceOf_18 : decode cX12_priceOf 18 = .ok (.invokevirtual 386, 3) := by decide +kernel
theorem dX12_priceOf_21 : decode cX12_priceOf 21 = .ok (.iastore, 1) := by decide +kernel
theorem dX12_priceOf_22 : decode cX12_priceOf 22 = .ok (.iinc 3 1, 3) := by decide +kernel
theorem dX12_priceOf_25 : decode cX12_priceOf 25 = .ok (.goto (-23), 3) := by decide +kernel
theorem dX12_priceOf_28 : decode cX12_priceOf 28 = .ok (.aload_n 0, 1) := by decide +kernel
theorem dX12_priceOf_29 : decode cX12_priceOf 29 = .ok (.aload_n 1, 1) := by decide +kernel
theorem dX12_priceOf_30 : decode cX12_priceOf 30 = .ok (.invokevirtual 441, 3) := by decide +kernel
theorem dX12_priceOf_33 : decode cX12_priceOf 33 = .ok (.ireturn, 1) := by decide +kernel
theorem dX12_bestWay_0 : decode cX12_bestWay 0 = .ok (.iconst (-1), 1) := by decide +kernel
theorem dX12_bestWay_1 : decode cX12_bestWay 1 = .ok (.istore_n 2, 1) := by decide +kernel
theorem dX12_bestWay_2 : decode cX12_bestWay 2 = .ok (.iconst 0, 1) := by decide +kernel
theorem dX12_bestWay_3 : decode cX12_bestWay 3 = .ok (.istore_n 3, 1) := by decide +kernel
theorem dX12_bestWay_4 : decode cX12_bestWay 4 = .ok (.iload_n 3, 1) := by decide +kernel
theorem dX12_bestWay_5 : decode cX12_bestWay 5 = .ok (.aload_n 0, 1) := by decide +kernel
theorem dX12_bestWay_6 : decode cX12_bestWay 6 = .ok (.aload_n 0, 1) := by decide +kernel
theorem dX12_bestWay_7 : decode cX12_bestWay 7 = .ok (.getfield 237, 3) := by decide +kernel
theorem dX12_bestWay_10 : decode cX12_bestWay 10 = .ok (.invokevirtual 438, 3) := by decide +kernel
theorem dX12_bestWay_13 : decode cX12_bestWay 13 = .ok (.if_icmp .ge 48, 3) := by decide +kernel
theorem dX12_bestWay_16 : decode cX12_bestWay 16 = .ok (.aload_n 0, 1) := by decide +kernel
theorem dX12_bestWay_17 : decode cX12_bestWay 17 = .ok (.aload_n 1, 1) := by decide +kernel
theorem dX12_bestWay_18 : decode cX12_bestWay 18 = .ok (.iload_n 3, 1) := by decide +kernel
theorem dX12_bestWay_19 : decode cX12_bestWay 19 = .ok (.invokevirtual 444, 3) := by decide +kernel
theorem dX12_bestWay_22 : decode cX12_bestWay 22 = .ok (.istore 4, 2) := by decide +kernel
theorem dX12_bestWay_24 : decode cX12_bestWay 24 = .ok (.iload 4, 2) := by decide +kernel
theorem dX12_bestWay_26 : decode cX12_bestWay 26 = .ok (.iconst (-1), 1) := by decide +kernel
theorem dX12_bestWay_27 : decode cX12_bestWay 27 = .ok (.if_icmp .eq 28, 3) := by decide +kernel
theorem dX12_bestWay_30 : decode cX12_bestWay 30 = .ok (.iload_n 2, 1) := by decide +kernel
theorem dX12_bestWay_31 : decode cX12_bestWay 31 = .ok (.iconst (-1), 1) := by decide +kernel
theorem dX12_bestWay_32 : decode cX12_bestWay 32 = .ok (.if_icmp .eq 15, 3) := by decide +kernel
theorem dX12_bestWay_35 : decode cX12_bestWay 35 = .ok (.iload 4, 2) := by decide +kernel
theorem dX12_bestWay_37 : decode cX12_bestWay 37 = .ok (.aload_n 0, 1) := by decide +kernel
theorem dX12_bestWay_38 : decode cX12_bestWay 38 = .ok (.getfield 447, 3) := by decide +kernel
theorem dX12_bestWay_41 : decode cX12_bestWay 41 = .ok (.if_icmp .lt 6, 3) := by decide +kernel
theorem dX12_bestWay_44 : decode cX12_bestWay 44 = .ok (.goto 11, 3) := by decide +kernel
theorem dX12_bestWay_47 : decode cX12_bestWay 47 = .ok (.iload_n 3, 1) := by decide +kernel
theorem dX12_bestWay_48 : decode cX12_bestWay 48 = .ok (.istore_n 2, 1) := by decide +kernel
theorem dX12_bestWay_49 : decode cX12_bestWay 49 = .ok (.aload_n 0, 1) := by decide +kernel
theorem dX12_bestWay_50 : decode cX12_bestWay 50 = .ok (.iload 4, 2) := by decide +kernel
theorem dX12_bestWay_52 : decode cX12_bestWay 52 = .ok (.putfield 447, 3) := by decide +kernel
theorem dX12_bestWay_55 : decode cX12_bestWay 55 = .ok (.iinc 3 1, 3) := by decide +kernel
theorem dX12_bestWay_58 : decode cX12_bestWay 58 = .ok (.goto (-54), 3) := by decide +kernel
theorem dX12_bestWay_61 : decode cX12_bestWay 61 = .ok (.iload_n 2, 1) := by decide +kernel
theorem dX12_bestWay_62 : decode cX12_bestWay 62 = .ok (.ireturn, 1) := by decide +kernel
theorem dX12_price_0 : decode cX12_price 0 = .ok (.aload_n 0, 1) := by decide +kernel
theorem dX12_price_1 : decode cX12_price 1 = .ok (.iconst 0, 1) := by decide +kernel
theorem dX12_price_2 : decode cX12_price 2 = .ok (.putfield 101, 3) := by decide +kernel
theorem dX12_price_5 : decode cX12_price 5 = .ok (.aload_n 0, 1) := by decide +kernel
theorem dX12_price_6 : decode cX12_price 6 = .ok (.getfield 234, 3) := by decide +kernel
theorem dX12_price_9 : decode cX12_price 9 = .ok (.ifCond .ne 5, 3) := by decide +kernel
theorem dX12_price_12 : decode cX12_price 12 = .ok (.iconst (-1), 1) := by decide +kernel
theorem dX12_price_13 : decode cX12_price 13 = .ok (.ireturn, 1) := by decide +kernel
theorem dX12_price_14 : decode cX12_price 14 = .ok (.aload_n 0, 1) := by decide +kernel
theorem dX12_price_15 : decode cX12_price 15 = .ok (.aload_n 0, 1) := by decide +kernel
theorem dX12_price_16 : decode cX12_price 16 = .ok (.getfield 63, 3) := by decide +kernel
theorem dX12_price_19 : decode cX12_price 19 = .ok (.invokevirtual 363, 3) := by decide +kernel
theorem dX12_price_22 : decode cX12_price 22 = .ok (.aload_n 0, 1) := by decide +kernel
theorem dX12_price_23 : decode cX12_price 23 = .ok (.aload_n 0, 1) := by decide +kernel
theorem dX12_price_24 : decode cX12_price 24 = .ok (.getfield 63, 3) := by decide +kernel
theorem dX12_price_27 : decode cX12_price 27 = .ok (.aload_n 0, 1) := by decide +kernel
theorem dX12_price_28 : decode cX12_price 28 = .ok (.aload_n 0, 1) := by decide +kernel
theorem dX12_price_29 : decode cX12_price 29 = .ok (.getfield 63, 3) := by decide +kernel
theorem dX12_price_32 : decode cX12_price 32 = .ok (.invokevirtual 370, 3) := by decide +kernel
theorem dX12_price_35 : decode cX12_price 35 = .ok (.invokevirtual 444, 3) := by decide +kernel
theorem dX12_price_38 : decode cX12_price 38 = .ok (.ireturn, 1) := by decide +kernel
theorem dX12_best_0 : decode cX12_best 0 = .ok (.aload_n 0, 1) := by decide +kernel
theorem dX12_best_1 : decode cX12_best 1 = .ok (.iconst 0, 1) := by decide +kernel
theorem dX12_best_2 : decode cX12_best 2 = .ok (.putfield 101, 3) := by decide +kernel
theorem dX12_best_5 : decode cX12_best 5 = .ok (.aload_n 0, 1) := by decide +kernel
theorem dX12_best_6 : decode cX12_best 6 = .ok (.getfield 234, 3) := by decide +kernel
theorem dX12_best_9 : decode cX12_best 9 = .ok (.ifCond .eq 26, 3) := by decide +kernel
theorem dX12_best_12 : decode cX12_best 12 = .ok (.iload_n 1, 1) := by decide +kernel
theorem dX12_best_13 : decode cX12_best 13 = .ok (.i2l, 1) := by decide +kernel
theorem dX12_best_14 : decode cX12_best 14 = .ok (.lconst 0, 1) := by decide +kernel
theorem dX12_best_15 : decode cX12_best 15 = .ok (.lconst 1, 1) := by decide +kernel
theorem dX12_best_16 : decode cX12_best 16 = .ok (.invokestatic 156, 3) := by decide +kernel
theorem dX12_best_19 : decode cX12_best 19 = .ok (.ifCond .eq 16, 3) := by decide +kernel
theorem dX12_best_22 : decode cX12_best 22 = .ok (.iload_n 1, 1) := by decide +kernel
theorem dX12_best_23 : decode cX12_best 23 = .ok (.iconst 1, 1) := by decide +kernel
theorem dX12_best_24 : decode cX12_best 24 = .ok (.if_icmp .ne 13, 3) := by decide +kernel
theorem dX12_best_27 : decode cX12_best 27 = .ok (.aload_n 0, 1) := by decide +kernel
theorem dX12_best_28 : decode cX12_best 28 = .ok (.iload_n 2, 1) := by decide +kernel
theorem dX12_best_29 : decode cX12_best 29 = .ok (.invokevirtual 339, 3) := by decide +kernel
theorem dX12_best_32 : decode cX12_best 32 = .ok (.ifCond .ne 5, 3) := by decide +kernel
theorem dX12_best_35 : decode cX12_best 35 = .ok (.iconst (-1), 1) := by decide +kernel
theorem dX12_best_36 : decode cX12_best 36 = .ok (.ireturn, 1) := by decide +kernel
theorem dX12_best_37 : decode cX12_best 37 = .ok (.aload_n 0, 1) := by decide +kernel
theorem dX12_best_38 : decode cX12_best 38 = .ok (.aload_n 0, 1) := by decide +kernel
theorem dX12_best_39 : decode cX12_best 39 = .ok (.getfield 63, 3) := by decide +kernel
theorem dX12_best_42 : decode cX12_best 42 = .ok (.invokevirtual 363, 3) := by decide +kernel
theorem dX12_best_45 : decode cX12_best 45 = .ok (.aload_n 0, 1) := by decide +kernel
theorem dX12_best_46 : decode cX12_best 46 = .ok (.aload_n 0, 1) := by decide +kernel
theorem dX12_best_47 : decode cX12_best 47 = .ok (.getfield 63, 3) := by decide +kernel
theorem dX12_best_50 : decode cX12_best 50 = .ok (.invokevirtual 367, 3) := by decide +kernel
theorem dX12_best_53 : decode cX12_best 53 = .ok (.istore_n 3, 1) := by decide +kernel
theorem dX12_best_54 : decode cX12_best 54 = .ok (.iload_n 3, 1) := by decide +kernel
theorem dX12_best_55 : decode cX12_best 55 = .ok (.iconst (-1), 1) := by decide +kernel
theorem dX12_best_56 : decode cX12_best 56 = .ok (.if_icmp .ne 7, 3) := by decide +kernel
theorem dX12_best_59 : decode cX12_best 59 = .ok (.iconst (-1), 1) := by decide +kernel
theorem dX12_best_60 : decode cX12_best 60 = .ok (.goto 20, 3) := by decide +kernel
theorem dX12_best_63 : decode cX12_best 63 = .ok (.iload_n 1, 1) := by decide +kernel
theorem dX12_best_64 : decode cX12_best 64 = .ok (.ifCond .ne 10, 3) := by decide +kernel
theorem dX12_best_67 : decode cX12_best 67 = .ok (.aload_n 0, 1) := by decide +kernel
theorem dX12_best_68 : decode cX12_best 68 = .ok (.getfield 447, 3) := by decide +kernel
theorem dX12_best_71 : decode cX12_best 71 = .ok (.goto 9, 3) := by decide +kernel
theorem dX12_best_74 : decode cX12_best 74 = .ok (.aload_n 0, 1) := by decide +kernel
theorem dX12_best_75 : decode cX12_best 75 = .ok (.iload_n 3, 1) := by decide +kernel
theorem dX12_best_76 : decode cX12_best 76 = .ok (.iload_n 2, 1) := by decide +kernel
theorem dX12_best_77 : decode cX12_best 77 = .ok (.invokevirtual 386, 3) := by decide +kernel
theorem dX12_best_80 : decode cX12_best 80 = .ok (.ireturn, 1) := by decide +kernel
theorem dX12_nextToPut_0 : decode cX12_nextToPut 0 = .ok (.iconst (-1), 1) := by decide +kernel
theorem dX12_nextToPut_1 : decode cX12_nextToPut 1 = .ok (.istore_n 1, 1) := by decide +kernel
theorem dX12_nextToPut_2 : decode cX12_nextToPut 2 = .ok (.iconst 0, 1) := by decide +kernel
theorem dX12_nextToPut_3 : decode cX12_nextToPut 3 = .ok (.istore_n 2, 1) := by decide +kernel
theorem dX12_nextToPut_4 : decode cX12_nextToPut 4 = .ok (.iload_n 2, 1) := by decide +kernel
theorem dX12_nextToPut_5 : decode cX12_nextToPut 5 = .ok (.aload_n 0, 1) := by decide +kernel
theorem dX12_nextToPut_6 : decode cX12_nextToPut 6 = .ok (.getfield 237, 3) := by decide +kernel
theorem dX12_nextToPut_9 : decode cX12_nextToPut 9 = .ok (.if_icmp .ge 41, 3) := by decide +kernel
theorem dX12_nextToPut_12 : decode cX12_nextToPut 12 = .ok (.aload_n 0, 1) := by decide +kernel
theorem dX12_nextToPut_13 : decode cX12_nextToPut 13 = .ok (.getfield 89, 3) := by decide +kernel
theorem dX12_nextToPut_16 : decode cX12_nextToPut 16 = .ok (.iload_n 2, 1) := by decide +kernel
theorem dX12_nextToPut_17 : decode cX12_nextToPut 17 = .ok (.iaload, 1) := by decide +kernel
theorem dX12_nextToPut_18 : decode cX12_nextToPut 18 = .ok (.iconst (-1), 1) := by decide +kernel
theorem dX12_nextToPut_19 : decode cX12_nextToPut 19 = .ok (.if_icmp .ne 25, 3) := by decide +kernel
theorem dX12_nextToPut_22 : decode cX12_nextToPut 22 = .ok (.iload_n 1, 1) := by decide +kernel
theorem dX12_nextToPut_23 : decode cX12_nextToPut 23 = .ok (.iconst (-1), 1) := by decide +kernel
theorem dX12_nextToPut_24 : decode cX12_nextToPut 24 = .ok (.if_icmp .eq 18, 3) := by decide +kernel
theorem dX12_nextToPut_27 : decode cX12_nextToPut 27 = .ok (.aload_n 0, 1) := by decide +kernel
theorem dX12_nextToPut_28 : decode cX12_nextToPut 28 = .ok (.getfield 82, 3) := by decide +kernel
theorem dX12_nextToPut_31 : decode cX12_nextToPut 31 = .ok (.iload_n 2, 1) := by decide +kernel
theorem dX12_nextToPut_32 : decode cX12_nextToPut 32 = .ok (.iaload, 1) := by decide +kernel
theorem dX12_nextToPut_33 : decode cX12_nextToPut 33 = .ok (.aload_n 0, 1) := by decide +kernel
theorem dX12_nextToPut_34 : decode cX12_nextToPut 34 = .ok (.getfield 82, 3) := by decide +kernel
theorem dX12_nextToPut_37 : decode cX12_nextToPut 37 = .ok (.iload_n 1, 1) := by decide +kernel
theorem dX12_nextToPut_38 : decode cX12_nextToPut 38 = .ok (.iaload, 1) := by decide +kernel
theorem dX12_nextToPut_39 : decode cX12_nextToPut 39 = .ok (.if_icmp .le 5, 3) := by decide +kernel
theorem dX12_nextToPut_42 : decode cX12_nextToPut 42 = .ok (.iload_n 2, 1) := by decide +kernel
theorem dX12_nextToPut_43 : decode cX12_nextToPut 43 = .ok (.istore_n 1, 1) := by decide +kernel
theorem dX12_nextToPut_44 : decode cX12_nextToPut 44 = .ok (.iinc 2 1, 3) := by decide +kernel
theorem dX12_nextToPut_47 : decode cX12_nextToPut 47 = .ok (.goto (-43), 3) := by decide +kernel
theorem dX12_nextToPut_50 : decode cX12_nextToPut 50 = .ok (.iload_n 1, 1) := by decide +kernel
theorem dX12_nextToPut_51 : decode cX12_nextToPut 51 = .ok (.ireturn, 1) := by decide +kernel
theorem dX12_putsAll_0 : decode cX12_putsAll 0 = .ok (.iconst 0, 1) := by decide +kernel
theorem dX12_putsAll_1 : decode cX12_putsAll 1 = .ok (.istore_n 1, 1) := by decide +kernel
theorem dX12_putsAll_2 : decode cX12_putsAll 2 = .ok (.iload_n 1, 1) := by decide +kernel
theorem dX12_putsAll_3 : decode cX12_putsAll 3 = .ok (.aload_n 0, 1) := by decide +kernel
theorem dX12_putsAll_4 : decode cX12_putsAll 4 = .ok (.getfield 237, 3) := by decide +kernel
theorem dX12_putsAll_7 : decode cX12_putsAll 7 = .ok (.if_icmp .ge 16, 3) := by decide +kernel
theorem dX12_putsAll_10 : decode cX12_putsAll 10 = .ok (.aload_n 0, 1) := by decide +kernel
theorem dX12_putsAll_11 : decode cX12_putsAll 11 = .ok (.getfield 89, 3) := by decide +kernel
theorem dX12_putsAll_14 : decode cX12_putsAll 14 = .ok (.iload_n 1, 1) := by decide +kernel
theorem dX12_putsAll_15 : decode cX12_putsAll 15 = .ok (.iconst (-1), 1) := by decide +kernel
theorem dX12_putsAll_16 : decode cX12_putsAll 16 = .ok (.iastore, 1) := by decide +kernel
theorem dX12_putsAll_17 : decode cX12_putsAll 17 = .ok (.iinc 1 1, 3) := by decide +kernel
theorem dX12_putsAll_20 : decode cX12_putsAll 20 = .ok (.goto (-18), 3) := by decide +kernel
theorem dX12_putsAll_23 : decode cX12_putsAll 23 = .ok (.aload_n 0, 1) := by decide +kernel
theorem dX12_putsAll_24 : decode cX12_putsAll 24 = .ok (.invokevirtual 450, 3) := by decide +kernel
theorem dX12_putsAll_27 : decode cX12_putsAll 27 = .ok (.istore_n 1, 1) := by decide +kernel
theorem dX12_putsAll_28 : decode cX12_putsAll 28 = .ok (.iload_n 1, 1) := by decide +kernel
theorem dX12_putsAll_29 : decode cX12_putsAll 29 = .ok (.iconst (-1), 1) := by decide +kernel
theorem dX12_putsAll_30 : decode cX12_putsAll 30 = .ok (.if_icmp .eq 91, 3) := by decide +kernel
theorem dX12_putsAll_33 : decode cX12_putsAll 33 = .ok (.iconst (-1), 1) := by decide +kernel
theorem dX12_putsAll_34 : decode cX12_putsAll 34 = .ok (.istore_n 2, 1) := by decide +kernel
theorem dX12_putsAll_35 : decode cX12_putsAll 35 = .ok (.iconst 0, 1) := by decide +kernel
theorem dX12_putsAll_36 : decode cX12_putsAll 36 = .ok (.istore_n 3, 1) := by decide +kernel
theorem dX12_putsAll_37 : decode cX12_putsAll 37 = .ok (.iconst 0, 1) := by decide +kernel
theorem dX12_putsAll_38 : decode cX12_putsAll 38 = .ok (.istore 4, 2) := by decide +kernel
theorem dX12_putsAll_40 : decode cX12_putsAll 40 = .ok (.iload 4, 2) := by decide +kernel
theorem dX12_putsAll_42 : decode cX12_putsAll 42 = .ok (.aload_n 0, 1) := by decide +kernel
theorem dX12_putsAll_43 : decode cX12_putsAll 43 = .ok (.getfield 240, 3) := by decide +kernel
theorem dX12_putsAll_46 : decode cX12_putsAll 46 = .ok (.if_icmp .ge 53, 3) := by decide +kernel
theorem dX12_putsAll_49 : decode cX12_putsAll 49 = .ok (.aload_n 0, 1) := by decide +kernel
theorem dX12_putsAll_50 : decode cX12_putsAll 50 = .ok (.getfield 89, 3) := by decide +kernel
theorem dX12_putsAll_53 : decode cX12_putsAll 53 = .ok (.iload_n 1, 1) := by decide +kernel
theorem dX12_putsAll_54 : decode cX12_putsAll 54 = .ok (.iload 4, 2) := by decide +kernel
theorem dX12_putsAll_56 : decode cX12_putsAll 56 = .ok (.iastore, 1) := by decide +kernel
theorem dX12_putsAll_57 : decode cX12_putsAll 57 = .ok (.aload_n 0, 1) := by decide +kernel
theorem dX12_putsAll_58 : decode cX12_putsAll 58 = .ok (.aload_n 0, 1) := by decide +kernel
theorem dX12_putsAll_59 : decode cX12_putsAll 59 = .ok (.getfield 63, 3) := by decide +kernel
theorem dX12_putsAll_62 : decode cX12_putsAll 62 = .ok (.invokevirtual 441, 3) := by decide +kernel
theorem dX12_putsAll_65 : decode cX12_putsAll 65 = .ok (.istore 5, 2) := by decide +kernel
theorem dX12_putsAll_67 : decode cX12_putsAll 67 = .ok (.iload 5, 2) := by decide +kernel
theorem dX12_putsAll_69 : decode cX12_putsAll 69 = .ok (.iconst (-1), 1) := by decide +kernel
theorem dX12_putsAll_70 : decode cX12_putsAll 70 = .ok (.if_icmp .eq 23, 3) := by decide +kernel
theorem dX12_putsAll_73 : decode cX12_putsAll 73 = .ok (.iload_n 2, 1) := by decide +kernel
theorem dX12_putsAll_74 : decode cX12_putsAll 74 = .ok (.iconst (-1), 1) := by decide +kernel
theorem dX12_putsAll_75 : decode cX12_putsAll 75 = .ok (.if_icmp .eq 12, 3) := by decide +kernel
theorem dX12_putsAll_78 : decode cX12_putsAll 78 = .ok (.iload 5, 2) := by decide +kernel
theorem dX12_putsAll_80 : decode cX12_putsAll 80 = .ok (.iload_n 3, 1) := by decide +kernel
theorem dX12_putsAll_81 : decode cX12_putsAll 81 = .ok (.if_icmp .lt 6, 3) := by decide +kernel
theorem dX12_putsAll_84 : decode cX12_putsAll 84 = .ok (.goto 9, 3) := by decide +kernel
theorem dX12_putsAll_87 : decode cX12_putsAll 87 = .ok (.iload 4, 2) := by decide +kernel
theorem dX12_putsAll_89 : decode cX12_putsAll 89 = .ok (.istore_n 2, 1) := by decide +kernel
theorem dX12_putsAll_90 : decode cX12_putsAll 90 = .ok (.iload 5, 2) := by decide +kernel
theorem dX12_putsAll_92 : decode cX12_putsAll 92 = .ok (.istore_n 3, 1) := by decide +kernel
theorem dX12_putsAll_93 : decode cX12_putsAll 93 = .ok (.iinc 4 1, 3) := by decide +kernel
theorem dX12_putsAll_96 : decode cX12_putsAll 96 = .ok (.goto (-56), 3) := by decide +kernel
theorem dX12_putsAll_99 : decode cX12_putsAll 99 = .ok (.iload_n 2, 1) := by decide +kernel
theorem dX12_putsAll_100 : decode cX12_putsAll 100 = .ok (.iconst (-1), 1) := by decide +kernel
theorem dX12_putsAll_101 : decode cX12_putsAll 101 = .ok (.if_icmp .ne 5, 3) := by decide +kernel
theorem dX12_putsAll_104 : decode cX12_putsAll 104 = .ok (.iconst 0, 1) := by decide +kernel
theorem dX12_putsAll_105 : decode cX12_putsAll 105 = .ok (.ireturn, 1) := by decide +kernel
theorem dX12_putsAll_106 : decode cX12_putsAll 106 = .ok (.aload_n 0, 1) := by decide +kernel
theorem dX12_putsAll_107 : decode cX12_putsAll 107 = .ok (.getfield 89, 3) := by decide +kernel
theorem dX12_putsAll_110 : decode cX12_putsAll 110 = .ok (.iload_n 1, 1) := by decide +kernel
theorem dX12_putsAll_111 : decode cX12_putsAll 111 = .ok (.iload_n 2, 1) := by decide +kernel
theorem dX12_putsAll_112 : decode cX12_putsAll 112 = .ok (.iastore, 1) := by decide +kernel
theorem dX12_putsAll_113 : decode cX12_putsAll 113 = .ok (.aload_n 0, 1) := by decide +kernel
theorem dX12_putsAll_114 : decode cX12_putsAll 114 = .ok (.invokevirtual 450, 3) := by decide +kernel
theorem dX12_putsAll_117 : decode cX12_putsAll 117 = .ok (.istore_n 1, 1) := by decide +kernel
theorem dX12_putsAll_118 : decode cX12_putsAll 118 = .ok (.goto (-90), 3) := by decide +kernel
theorem dX12_putsAll_121 : decode cX12_putsAll 121 = .ok (.iconst 1, 1) := by decide +kernel
theorem dX12_putsAll_122 : decode cX12_putsAll 122 = .ok (.ireturn, 1) := by decide +kernel
theorem dX12_greedy_0 : decode cX12_greedy 0 = .ok (.aload_n 0, 1) := by decide +kernel
theorem dX12_greedy_1 : decode cX12_greedy 1 = .ok (.iconst 0, 1) := by decide +kernel
theorem dX12_greedy_2 : decode cX12_greedy 2 = .ok (.putfield 101, 3) := by decide +kernel
theorem dX12_greedy_5 : decode cX12_greedy 5 = .ok (.aload_n 0, 1) := by decide +kernel
theorem dX12_greedy_6 : decode cX12_greedy 6 = .ok (.getfield 234, 3) := by decide +kernel
theorem dX12_greedy_9 : decode cX12_greedy 9 = .ok (.ifCond .eq 26, 3) := by decide +kernel
theorem dX12_greedy_12 : decode cX12_greedy 12 = .ok (.iload_n 1, 1) := by decide +kernel
theorem dX12_greedy_13 : decode cX12_greedy 13 = .ok (.i2l, 1) := by decide +kernel
theorem dX12_greedy_14 : decode cX12_greedy 14 = .ok (.lconst 0, 1) := by decide +kernel
theorem dX12_greedy_15 : decode cX12_greedy 15 = .ok (.lconst 1, 1) := by decide +kernel
theorem dX12_greedy_16 : decode cX12_greedy 16 = .ok (.invokestatic 156, 3) := by decide +kernel
theorem dX12_greedy_19 : decode cX12_greedy 19 = .ok (.ifCond .eq 16, 3) := by decide +kernel
theorem dX12_greedy_22 : decode cX12_greedy 22 = .ok (.iload_n 1, 1) := by decide +kernel
theorem dX12_greedy_23 : decode cX12_greedy 23 = .ok (.iconst 1, 1) := by decide +kernel
theorem dX12_greedy_24 : decode cX12_greedy 24 = .ok (.if_icmp .ne 13, 3) := by decide +kernel
theorem dX12_greedy_27 : decode cX12_greedy 27 = .ok (.aload_n 0, 1) := by decide +kernel
theorem dX12_greedy_28 : decode cX12_greedy 28 = .ok (.iload_n 2, 1) := by decide +kernel
theorem dX12_greedy_29 : decode cX12_greedy 29 = .ok (.invokevirtual 339, 3) := by decide +kernel
theorem dX12_greedy_32 : decode cX12_greedy 32 = .ok (.ifCond .ne 5, 3) := by decide +kernel
theorem dX12_greedy_35 : decode cX12_greedy 35 = .ok (.iconst (-1), 1) := by decide +kernel
theorem dX12_greedy_36 : decode cX12_greedy 36 = .ok (.ireturn, 1) := by decide +kernel
theorem dX12_greedy_37 : decode cX12_greedy 37 = .ok (.aload_n 0, 1) := by decide +kernel
theorem dX12_greedy_38 : decode cX12_greedy 38 = .ok (.aload_n 0, 1) := by decide +kernel
theorem dX12_greedy_39 : decode cX12_greedy 39 = .ok (.getfield 63, 3) := by decide +kernel
theorem dX12_greedy_42 : decode cX12_greedy 42 = .ok (.invokevirtual 363, 3) := by decide +kernel
theorem dX12_greedy_45 : decode cX12_greedy 45 = .ok (.aload_n 0, 1) := by decide +kernel
theorem dX12_greedy_46 : decode cX12_greedy 46 = .ok (.invokevirtual 453, 3) := by decide +kernel
theorem dX12_greedy_49 : decode cX12_greedy 49 = .ok (.ifCond .ne 5, 3) := by decide +kernel
theorem dX12_greedy_52 : decode cX12_greedy 52 = .ok (.iconst (-1), 1) := by decide +kernel
theorem dX12_greedy_53 : decode cX12_greedy 53 = .ok (.ireturn, 1) := by decide +kernel
theorem dX12_greedy_54 : decode cX12_greedy 54 = .ok (.iload_n 1, 1) := by decide +kernel
theorem dX12_greedy_55 : decode cX12_greedy 55 = .ok (.ifCond .ne 14, 3) := by decide +kernel
theorem dX12_greedy_58 : decode cX12_greedy 58 = .ok (.aload_n 0, 1) := by decide +kernel
theorem dX12_greedy_59 : decode cX12_greedy 59 = .ok (.aload_n 0, 1) := by decide +kernel
theorem dX12_greedy_60 : decode cX12_greedy 60 = .ok (.getfield 63, 3) := by decide +kernel
theorem dX12_greedy_63 : decode cX12_greedy 63 = .ok (.invokevirtual 441, 3) := by decide +kernel
theorem dX12_greedy_66 : decode cX12_greedy 66 = .ok (.goto 9, 3) := by decide +kernel
theorem dX12_greedy_69 : decode cX12_greedy 69 = .ok (.aload_n 0, 1) := by decide +kernel
theorem dX12_greedy_70 : decode cX12_greedy 70 = .ok (.getfield 89, 3) := by decide +kernel
theorem dX12_greedy_73 : decode cX12_greedy 73 = .ok (.iload_n 2, 1) := by decide +kernel
theorem dX12_greedy_74 : decode cX12_greedy 74 = .ok (.iaload, 1) := by decide +kernel
theorem dX12_greedy_75 : decode cX12_greedy 75 = .ok (.ireturn, 1) := by decide +kernel
theorem dX12_moves_0 : decode cX12_moves 0 = .ok (.aload_n 0, 1) := by decide +kernel
theorem dX12_moves_1 : decode cX12_moves 1 = .ok (.iconst 0, 1) := by decide +kernel
theorem dX12_moves_2 : decode cX12_moves 2 = .ok (.putfield 101, 3) := by decide +kernel
theorem dX12_moves_5 : decode cX12_moves 5 = .ok (.aload_n 0, 1) := by decide +kernel
theorem dX12_moves_6 : decode cX12_moves 6 = .ok (.getfield 234, 3) := by decide +kernel
theorem dX12_moves_9 : decode cX12_moves 9 = .ok (.ifCond .ne 5, 3) := by decide +kernel
theorem dX12_moves_12 : decode cX12_moves 12 = .ok (.iconst (-1), 1) := by decide +kernel
theorem dX12_moves_13 : decode cX12_moves 13 = .ok (.ireturn, 1) := by decide +kernel
theorem dX12_moves_14 : decode cX12_moves 14 = .ok (.aload_n 0, 1) := by decide +kernel
theorem dX12_moves_15 : decode cX12_moves 15 = .ok (.aload_n 0, 1) := by decide +kernel
theorem dX12_moves_16 : decode cX12_moves 16 = .ok (.getfield 63, 3) := by decide +kernel
theorem dX12_moves_19 : decode cX12_moves 19 = .ok (.invokevirtual 363, 3) := by decide +kernel
theorem dX12_moves_22 : decode cX12_moves 22 = .ok (.aload_n 0, 1) := by decide +kernel
theorem dX12_moves_23 : decode cX12_moves 23 = .ok (.aload_n 0, 1) := by decide +kernel
theorem dX12_moves_24 : decode cX12_moves 24 = .ok (.getfield 63, 3) := by decide +kernel
theorem dX12_moves_27 : decode cX12_moves 27 = .ok (.invokevirtual 367, 3) := by decide +kernel
theorem dX12_moves_30 : decode cX12_moves 30 = .ok (.iconst (-1), 1) := by decide +kernel
theorem dX12_moves_31 : decode cX12_moves 31 = .ok (.if_icmp .ne 5, 3) := by decide +kernel
theorem dX12_moves_34 : decode cX12_moves 34 = .ok (.iconst (-1), 1) := by decide +kernel
theorem dX12_moves_35 : decode cX12_moves 35 = .ok (.ireturn, 1) := by decide +kernel
theorem dX12_moves_36 : decode cX12_moves 36 = .ok (.aload_n 0, 1) := by decide +kernel
theorem dX12_moves_37 : decode cX12_moves 37 = .ok (.aload_n 0, 1) := by decide +kernel
theorem dX12_moves_38 : decode cX12_moves 38 = .ok (.getfield 237, 3) := by decide +kernel
theorem dX12_moves_41 : decode cX12_moves 41 = .ok (.invokevirtual 438, 3) := by decide +kernel
theorem dX12_moves_44 : decode cX12_moves 44 = .ok (.istore_n 1, 1) := by decide +kernel
theorem dX12_moves_45 : decode cX12_moves 45 = .ok (.iconst 0, 1) := by decide +kernel
theorem dX12_moves_46 : decode cX12_moves 46 = .ok (.istore_n 2, 1) := by decide +kernel
theorem dX12_moves_47 : decode cX12_moves 47 = .ok (.iload_n 2, 1) := by decide +kernel
theorem dX12_moves_48 : decode cX12_moves 48 = .ok (.iload_n 1, 1) := by decide +kernel
theorem dX12_moves_49 : decode cX12_moves 49 = .ok (.if_icmp .ge 31, 3) := by decide +kernel
theorem dX12_moves_52 : decode cX12_moves 52 = .ok (.aload_n 0, 1) := by decide +kernel
theorem dX12_moves_53 : decode cX12_moves 53 = .ok (.getfield 92, 3) := by decide +kernel
theorem dX12_moves_56 : decode cX12_moves 56 = .ok (.iload_n 2, 1) := by decide +kernel
theorem dX12_moves_57 : decode cX12_moves 57 = .ok (.aload_n 0, 1) := by decide +kernel
theorem dX12_moves_58 : decode cX12_moves 58 = .ok (.aload_n 0, 1) := by decide +kernel
theorem dX12_moves_59 : decode cX12_moves 59 = .ok (.getfield 63, 3) := by decide +kernel
theorem dX12_moves_62 : decode cX12_moves 62 = .ok (.iload_n 2, 1) := by decide +kernel
theorem dX12_moves_63 : decode cX12_moves 63 = .ok (.invokevirtual 444, 3) := by decide +kernel
theorem dX12_moves_66 : decode cX12_moves 66 = .ok (.iastore, 1) := by decide +kernel
theorem dX12_moves_67 : decode cX12_moves 67 = .ok (.aload_n 0, 1) := by decide +kernel
theorem dX12_moves_68 : decode cX12_moves 68 = .ok (.getfield 95, 3) := by decide +kernel
theorem dX12_moves_71 : decode cX12_moves 71 = .ok (.iload_n 2, 1) := by decide +kernel
theorem dX12_moves_72 : decode cX12_moves 72 = .ok (.iconst (-1), 1) := by decide +kernel
theorem dX12_moves_73 : decode cX12_moves 73 = .ok (.iastore, 1) := by decide +kernel
theorem dX12_moves_74 : decode cX12_moves 74 = .ok (.iinc 2 1, 3) := by decide +kernel
theorem dX12_moves_77 : decode cX12_moves 77 = .ok (.goto (-30), 3) := by decide +kernel
theorem dX12_moves_80 : decode cX12_moves 80 = .ok (.aload_n 0, 1) := by decide +kernel
theorem dX12_moves_81 : decode cX12_moves 81 = .ok (.getfield 98, 3) := by decide +kernel
theorem dX12_moves_84 : decode cX12_moves 84 = .ok (.iconst 0, 1) := by decide +kernel
theorem dX12_moves_85 : decode cX12_moves 85 = .ok (.aload_n 0, 1) := by decide +kernel
theorem dX12_moves_86 : decode cX12_moves 86 = .ok (.aload_n 0, 1) := by decide +kernel
theorem dX12_moves_87 : decode cX12_moves 87 = .ok (.getfield 63, 3) := by decide +kernel
theorem dX12_moves_90 : decode cX12_moves 90 = .ok (.invokevirtual 370, 3) := by decide +kernel
theorem dX12_moves_93 : decode cX12_moves 93 = .ok (.iastore, 1) := by decide +kernel
theorem dX12_moves_94 : decode cX12_moves 94 = .ok (.aload_n 0, 1) := by decide +kernel
theorem dX12_moves_95 : decode cX12_moves 95 = .ok (.getfield 95, 3) := by decide +kernel
theorem dX12_moves_98 : decode cX12_moves 98 = .ok (.aload_n 0, 1) := by decide +kernel
theorem dX12_moves_99 : decode cX12_moves 99 = .ok (.getfield 98, 3) := by decide +kernel
theorem dX12_moves_102 : decode cX12_moves 102 = .ok (.iconst 0, 1) := by decide +kernel
theorem dX12_moves_103 : decode cX12_moves 103 = .ok (.iaload, 1) := by decide +kernel
theorem dX12_moves_104 : decode cX12_moves 104 = .ok (.iconst 0, 1) := by decide +kernel
theorem dX12_moves_105 : decode cX12_moves 105 = .ok (.iastore, 1) := by decide +kernel
theorem dX12_moves_106 : decode cX12_moves 106 = .ok (.iconst 1, 1) := by decide +kernel
theorem dX12_moves_107 : decode cX12_moves 107 = .ok (.istore_n 2, 1) := by decide +kernel
theorem dX12_moves_108 : decode cX12_moves 108 = .ok (.iconst 0, 1) := by decide +kernel
theorem dX12_moves_109 : decode cX12_moves 109 = .ok (.istore_n 3, 1) := by decide +kernel
theorem dX12_moves_110 : decode cX12_moves 110 = .ok (.iload_n 3, 1) := by decide +kernel
theorem dX12_moves_111 : decode cX12_moves 111 = .ok (.iload_n 2, 1) := by decide +kernel
theorem dX12_moves_112 : decode cX12_moves 112 = .ok (.if_icmp .ge 157, 3) := by decide +kernel
theorem dX12_moves_115 : decode cX12_moves 115 = .ok (.aload_n 0, 1) := by decide +kernel
theorem dX12_moves_116 : decode cX12_moves 116 = .ok (.getfield 98, 3) := by decide +kernel
theorem dX12_moves_119 : decode cX12_moves 119 = .ok (.iload_n 3, 1) := by decide +kernel
theorem dX12_moves_120 : decode cX12_moves 120 = .ok (.iaload, 1) := by decide +kernel
theorem dX12_moves_121 : decode cX12_moves 121 = .ok (.istore 4, 2) := by decide +kernel
theorem dX12_moves_123 : decode cX12_moves 123 = .ok (.aload_n 0, 1) := by decide +kernel
theorem dX12_moves_124 : decode cX12_moves 124 = .ok (.getfield 92, 3) := by decide +kernel
theorem dX12_moves_127 : decode cX12_moves 127 = .ok (.iload 4, 2) := by decide +kernel
theorem dX12_moves_129 : decode cX12_moves 129 = .ok (.iaload, 1) := by decide +kernel
theorem dX12_moves_130 : decode cX12_moves 130 = .ok (.aload_n 0, 1) := by decide +kernel
theorem dX12_moves_131 : decode cX12_moves 131 = .ok (.getfield 447, 3) := by decide +kernel
theorem dX12_moves_134 : decode cX12_moves 134 = .ok (.if_icmp .ne 11, 3) := by decide +kernel
theorem dX12_moves_137 : decode cX12_moves 137 = .ok (.aload_n 0, 1) := by decide +kernel
theorem dX12_moves_138 : decode cX12_moves 138 = .ok (.getfield 95, 3) := by decide +kernel
theorem dX12_moves_141 : decode cX12_moves 141 = .ok (.iload 4, 2) := by decide +kernel
theorem dX12_moves_143 : decode cX12_moves 143 = .ok (.iaload, 1) := by decide +kernel
theorem dX12_moves_144 : decode cX12_moves 144 = .ok (.ireturn, 1) := by decide +kernel
theorem dX12_moves_145 : decode cX12_moves 145 = .ok (.iconst 0, 1) := by decide +kernel
theorem dX12_moves_146 : decode cX12_moves 146 = .ok (.istore 5, 2) := by decide +kernel
theorem dX12_moves_148 : decode cX12_moves 148 = .ok (.iload 5, 2) := by decide +kernel
theorem dX12_moves_150 : decode cX12_moves 150 = .ok (.aload_n 0, 1) := by decide +kernel
theorem dX12_moves_151 : decode cX12_moves 151 = .ok (.getfield 237, 3) := by decide +kernel
theorem dX12_moves_154 : decode cX12_moves 154 = .ok (.if_icmp .ge 109, 3) := by decide +kernel
theorem dX12_moves_157 : decode cX12_moves 157 = .ok (.iconst 0, 1) := by decide +kernel
theorem dX12_moves_158 : decode cX12_moves 158 = .ok (.istore 6, 2) := by decide +kernel
theorem dX12_moves_160 : decode cX12_moves 160 = .ok (.iload 6, 2) := by decide +kernel
theorem dX12_moves_162 : decode cX12_moves 162 = .ok (.aload_n 0, 1) := by decide +kernel
theorem dX12_moves_163 : decode cX12_moves 163 = .ok (.getfield 240, 3) := by decide +kernel
theorem dX12_moves_166 : decode cX12_moves 166 = .ok (.if_icmp .ge 91, 3) := by decide +kernel
theorem dX12_moves_169 : decode cX12_moves 169 = .ok (.iload 4, 2) := by decide +kernel
theorem dX12_moves_171 : decode cX12_moves 171 = .ok (.iload 6, 2) := by decide +kernel
theorem dX12_moves_173 : decode cX12_moves 173 = .ok (.aload_n 0, 1) := by decide +kernel
theorem dX12_moves_174 : decode cX12_moves 174 = .ok (.iload 4, 2) := by decide +kernel
theorem dX12_moves_176 : decode cX12_moves 176 = .ok (.iload 5, 2) := by decide +kernel
theorem dX12_moves_178 : decode cX12_moves 178 = .ok (.invokevirtual 386, 3) := by decide +kernel
theorem dX12_moves_181 : decode cX12_moves 181 = .ok (.isub, 1) := by decide +kernel
theorem dX12_moves_182 : decode cX12_moves 182 = .ok (.aload_n 0, 1) := by decide +kernel
theorem dX12_moves_183 : decode cX12_moves 183 = .ok (.aload_n 0, 1) := by decide +kernel
theorem dX12_moves_184 : decode cX12_moves 184 = .ok (.getfield 237, 3) := by decide +kernel
theorem dX12_moves_187 : decode cX12_moves 187 = .ok (.iconst 1, 1) := by decide +kernel
theorem dX12_moves_188 : decode cX12_moves 188 = .ok (.isub, 1) := by decide +kernel
theorem dX12_moves_189 : decode cX12_moves 189 = .ok (.iload 5, 2) := by decide +kernel
theorem dX12_moves_191 : decode cX12_moves 191 = .ok (.isub, 1) := by decide +kernel
theorem dX12_moves_192 : decode cX12_moves 192 = .ok (.invokevirtual 438, 3) := by decide +kernel
theorem dX12_moves_195 : decode cX12_moves 195 = .ok (.imul, 1) := by decide +kernel
theorem dX12_moves_196 : decode cX12_moves 196 = .ok (.iadd, 1) := by decide +kernel
theorem dX12_moves_197 : decode cX12_moves 197 = .ok (.istore 7, 2) := by decide +kernel
theorem dX12_moves_199 : decode cX12_moves 199 = .ok (.aload_n 0, 1) := by decide +kernel
theorem dX12_moves_200 : decode cX12_moves 200 = .ok (.getfield 95, 3) := by decide +kernel
theorem dX12_moves_203 : decode cX12_moves 203 = .ok (.iload 7, 2) := by decide +kernel
theorem dX12_moves_205 : decode cX12_moves 205 = .ok (.iaload, 1) := by decide +kernel
theorem dX12_moves_206 : decode cX12_moves 206 = .ok (.iconst (-1), 1) := by decide +kernel
theorem dX12_moves_207 : decode cX12_moves 207 = .ok (.if_icmp .ne 44, 3) := by decide +kernel
theorem dX12_moves_210 : decode cX12_moves 210 = .ok (.aload_n 0, 1) := by decide +kernel
theorem dX12_moves_211 : decode cX12_moves 211 = .ok (.getfield 92, 3) := by decide +kernel
theorem dX12_moves_214 : decode cX12_moves 214 = .ok (.iload 7, 2) := by decide +kernel
theorem dX12_moves_216 : decode cX12_moves 216 = .ok (.iaload, 1) := by decide +kernel
theorem dX12_moves_217 : decode cX12_moves 217 = .ok (.iconst (-1), 1) := by decide +kernel
theorem dX12_moves_218 : decode cX12_moves 218 = .ok (.if_icmp .ne 6, 3) := by decide +kernel
theorem dX12_moves_221 : decode cX12_moves 221 = .ok (.goto 30, 3) := by decide +kernel
theorem dX12_moves_224 : decode cX12_moves 224 = .ok (.aload_n 0, 1) := by decide +kernel
theorem dX12_moves_225 : decode cX12_moves 225 = .ok (.getfield 95, 3) := by decide +kernel
theorem dX12_moves_228 : decode cX12_moves 228 = .ok (.iload 7, 2) := by decide +kernel
theorem dX12_moves_230 : decode cX12_moves 230 = .ok (.aload_n 0, 1) := by decide +kernel
theorem dX12_moves_231 : decode cX12_moves 231 = .ok (.getfield 95, 3) := by decide +kernel
theorem dX12_moves_234 : decode cX12_moves 234 = .ok (.iload 4, 2) := by decide +kernel
theorem dX12_moves_236 : decode cX12_moves 236 = .ok (.iaload, 1) := by decide +kernel
theorem dX12_moves_237 : decode cX12_moves 237 = .ok (.iconst 1, 1) := by decide +kernel
theorem dX12_moves_238 : decode cX12_moves 238 = .ok (.iadd, 1) := by decide +kernel
theorem dX12_moves_239 : decode cX12_moves 239 = .ok (.iastore, 1) := by decide +kernel
theorem dX12_moves_240 : decode cX12_moves 240 = .ok (.aload_n 0, 1) := by decide +kernel
theorem dX12_moves_241 : decode cX12_moves 241 = .ok (.getfield 98, 3) := by decide +kernel
theorem dX12_moves_244 : decode cX12_moves 244 = .ok (.iload_n 2, 1) := by decide +kernel
theorem dX12_moves_245 : decode cX12_moves 245 = .ok (.iload 7, 2) := by decide +kernel
theorem dX12_moves_247 : decode cX12_moves 247 = .ok (.iastore, 1) := by decide +kernel
theorem dX12_moves_248 : decode cX12_moves 248 = .ok (.iinc 2 1, 3) := by decide +kernel
theorem dX12_moves_251 : decode cX12_moves 251 = .ok (.iinc 6 1, 3) := by decide +kernel
theorem dX12_moves_254 : decode cX12_moves 254 = .ok (.goto (-94), 3) := by decide +kernel
theorem dX12_moves_257 : decode cX12_moves 257 = .ok (.iinc 5 1, 3) := by decide +kernel
theorem dX12_moves_260 : decode cX12_moves 260 = .ok (.goto (-112), 3) := by decide +kernel
theorem dX12_moves_263 : decode cX12_moves 263 = .ok (.iinc 3 1, 3) := by decide +kernel
theorem dX12_moves_266 : decode cX12_moves 266 = .ok (.goto (-156), 3) := by decide +kernel
theorem dX12_moves_269 : decode cX12_moves 269 = .ok (.iconst (-1), 1) := by decide +kernel
theorem dX12_moves_270 : decode cX12_moves 270 = .ok (.ireturn, 1) := by decide +kernel
theorem dX12_odds_0 : decode cX12_odds 0 = .ok (.aload_n 0, 1) := by decide +kernel
theorem dX12_odds_1 : decode cX12_odds 1 = .ok (.iconst 0, 1) := by decide +kernel
theorem dX12_odds_2 : decode cX12_odds 2 = .ok (.putfield 101, 3) := by decide +kernel
theorem dX12_odds_5 : decode cX12_odds 5 = .ok (.aload_n 0, 1) := by decide +kernel
theorem dX12_odds_6 : decode cX12_odds 6 = .ok (.getfield 234, 3) := by decide +kernel
theorem dX12_odds_9 : decode cX12_odds 9 = .ok (.ifCond .eq 15, 3) := by decide +kernel
theorem dX12_odds_12 : decode cX12_odds 12 = .ok (.iload_n 1, 1) := by decide +kernel
theorem dX12_odds_13 : decode cX12_odds 13 = .ok (.i2l, 1) := by decide +kernel
theorem dX12_odds_14 : decode cX12_odds 14 = .ok (.lconst 0, 1) := by decide +kernel
theorem dX12_odds_15 : decode cX12_odds 15 = .ok (.ldc2_w 456, 3) := by decide +kernel
theorem dX12_odds_18 : decode cX12_odds 18 = .ok (.invokestatic 156, 3) := by decide +kernel
theorem dX12_odds_21 : decode cX12_odds 21 = .ok (.ifCond .ne 5, 3) := by decide +kernel
theorem dX12_odds_24 : decode cX12_odds 24 = .ok (.iconst (-1), 1) := by decide +kernel
theorem dX12_odds_25 : decode cX12_odds 25 = .ok (.ireturn, 1) := by decide +kernel
theorem dX12_odds_26 : decode cX12_odds 26 = .ok (.iconst 0, 1) := by decide +kernel
theorem dX12_odds_27 : decode cX12_odds 27 = .ok (.istore_n 2, 1) := by decide +kernel
theorem dX12_odds_28 : decode cX12_odds 28 = .ok (.iconst 0, 1) := by decide +kernel
theorem dX12_odds_29 : decode cX12_odds 29 = .ok (.istore_n 3, 1) := by decide +kernel
theorem dX12_odds_30 : decode cX12_odds 30 = .ok (.iload_n 3, 1) := by decide +kernel
theorem dX12_odds_31 : decode cX12_odds 31 = .ok (.iconst 1, 1) := by decide +kernel
theorem dX12_odds_32 : decode cX12_odds 32 = .ok (.aload_n 0, 1) := by decide +kernel
theorem dX12_odds_33 : decode cX12_odds 33 = .ok (.getfield 237, 3) := by decide +kernel
theorem dX12_odds_36 : decode cX12_odds 36 = .ok (.ishl, 1) := by decide +kernel
theorem dX12_odds_37 : decode cX12_odds 37 = .ok (.if_icmp .ge 212, 3) := by decide +kernel
theorem dX12_odds_40 : decode cX12_odds 40 = .ok (.iconst 1, 1) := by decide +kernel
theorem dX12_odds_41 : decode cX12_odds 41 = .ok (.istore 4, 2) := by decide +kernel
theorem dX12_odds_43 : decode cX12_odds 43 = .ok (.ldc2_w 458, 3) := by decide +kernel
theorem dX12_odds_46 : decode cX12_odds 46 = .ok (.lstore 5, 2) := by decide +kernel
theorem dX12_odds_48 : decode cX12_odds 48 = .ok (.iconst 0, 1) := by decide +kernel
theorem dX12_odds_49 : decode cX12_odds 49 = .ok (.istore 7, 2) := by decide +kernel
theorem dX12_odds_51 : decode cX12_odds 51 = .ok (.iload 7, 2) := by decide +kernel
theorem dX12_odds_53 : decode cX12_odds 53 = .ok (.aload_n 0, 1) := by decide +kernel
theorem dX12_odds_54 : decode cX12_odds 54 = .ok (.getfield 237, 3) := by decide +kernel
theorem dX12_odds_57 : decode cX12_odds 57 = .ok (.if_icmp .ge 163, 3) := by decide +kernel
theorem dX12_odds_60 : decode cX12_odds 60 = .ok (.aload_n 0, 1) := by decide +kernel
theorem dX12_odds_61 : decode cX12_odds 61 = .ok (.getfield 63, 3) := by decide +kernel
theorem dX12_odds_64 : decode cX12_odds 64 = .ok (.bipush 37, 2) := by decide +kernel
theorem dX12_odds_66 : decode cX12_odds 66 = .ok (.iload 7, 2) := by decide +kernel
theorem dX12_odds_68 : decode cX12_odds 68 = .ok (.iadd, 1) := by decide +kernel
theorem dX12_odds_69 : decode cX12_odds 69 = .ok (.iaload, 1) := by decide +kernel
theorem dX12_odds_70 : decode cX12_odds 70 = .ok (.iconst 1, 1) := by decide +kernel
theorem dX12_odds_71 : decode cX12_odds 71 = .ok (.if_icmp .ne 7, 3) := by decide +kernel
theorem dX12_odds_74 : decode cX12_odds 74 = .ok (.iconst 1, 1) := by decide +kernel
theorem dX12_odds_75 : decode cX12_odds 75 = .ok (.goto 4, 3) := by decide +kernel
theorem dX12_odds_78 : decode cX12_odds 78 = .ok (.iconst 0, 1) := by decide +kernel
theorem dX12_odds_79 : decode cX12_odds 79 = .ok (.istore 8, 2) := by decide +kernel
theorem dX12_odds_81 : decode cX12_odds 81 = .ok (.iload 4, 2) := by decide +kernel
theorem dX12_odds_83 : decode cX12_odds 83 = .ok (.ifCond .eq 21, 3) := by decide +kernel
theorem dX12_odds_86 : decode cX12_odds 86 = .ok (.iload 8, 2) := by decide +kernel
theorem dX12_odds_88 : decode cX12_odds 88 = .ok (.ifCond .eq 12, 3) := by decide +kernel
theorem dX12_odds_91 : decode cX12_odds 91 = .ok (.iload_n 3, 1) := by decide +kernel
theorem dX12_odds_92 : decode cX12_odds 92 = .ok (.iload 7, 2) := by decide +kernel
theorem dX12_odds_94 : decode cX12_odds 94 = .ok (.invokestatic 188, 3) := by decide +kernel
theorem dX12_odds_97 : decode cX12_odds 97 = .ok (.ifCond .ne 7, 3) := by decide +kernel
theorem dX12_odds_100 : decode cX12_odds 100 = .ok (.iconst 1, 1) := by decide +kernel
theorem dX12_odds_101 : decode cX12_odds 101 = .ok (.goto 4, 3) := by decide +kernel
theorem dX12_odds_104 : decode cX12_odds 104 = .ok (.iconst 0, 1) := by decide +kernel
theorem dX12_odds_105 : decode cX12_odds 105 = .ok (.istore 4, 2) := by decide +kernel
theorem dX12_odds_107 : decode cX12_odds 107 = .ok (.lload 5, 2) := by decide +kernel
theorem dX12_odds_109 : decode cX12_odds 109 = .ok (.iload_n 1, 1) := by decide +kernel
theorem dX12_odds_110 : decode cX12_odds 110 = .ok (.i2l, 1) := by decide +kernel
theorem dX12_odds_111 : decode cX12_odds 111 = .ok (.lmul, 1) := by decide +kernel
theorem dX12_odds_112 : decode cX12_odds 112 = .ok (.ldc2_w 456, 3) := by decide +kernel
theorem dX12_odds_115 : decode cX12_odds 115 = .ok (.ldiv, 1) := by decide +kernel
theorem dX12_odds_116 : decode cX12_odds 116 = .ok (.lstore 9, 2) := by decide +kernel
theorem dX12_odds_118 : decode cX12_odds 118 = .ok (.iload 8, 2) := by decide +kernel
theorem dX12_odds_120 : decode cX12_odds 120 = .ok (.ifCond .ne 24, 3) := by decide +kernel
theorem dX12_odds_123 : decode cX12_odds 123 = .ok (.iload_n 3, 1) := by decide +kernel
theorem dX12_odds_124 : decode cX12_odds 124 = .ok (.iload 7, 2) := by decide +kernel
theorem dX12_odds_126 : decode cX12_odds 126 = .ok (.invokestatic 188, 3) := by decide +kernel
theorem dX12_odds_129 : decode cX12_odds 129 = .ok (.ifCond .eq 8, 3) := by decide +kernel
theorem dX12_odds_132 : decode cX12_odds 132 = .ok (.lload 9, 2) := by decide +kernel
theorem dX12_odds_134 : decode cX12_odds 134 = .ok (.goto 8, 3) := by decide +kernel
theorem dX12_odds_137 : decode cX12_odds 137 = .ok (.lload 5, 2) := by decide +kernel
theorem dX12_odds_139 : decode cX12_odds 139 = .ok (.lload 9, 2) := by decide +kernel
theorem dX12_odds_141 : decode cX12_odds 141 = .ok (.lsub, 1) := by decide +kernel
theorem dX12_odds_142 : decode cX12_odds 142 = .ok (.lstore 5, 2) := by decide +kernel
theorem dX12_odds_144 : decode cX12_odds 144 = .ok (.aload_n 0, 1) := by decide +kernel
theorem dX12_odds_145 : decode cX12_odds 145 = .ok (.getfield 85, 3) := by decide +kernel
theorem dX12_odds_148 : decode cX12_odds 148 = .ok (.iload 7, 2) := by decide +kernel
theorem dX12_odds_150 : decode cX12_odds 150 = .ok (.iload 8, 2) := by decide +kernel
theorem dX12_odds_152 : decode cX12_odds 152 = .ok (.ifCond .ne 12, 3) := by decide +kernel
theorem dX12_odds_155 : decode cX12_odds 155 = .ok (.iload_n 3, 1) := by decide +kernel
theorem dX12_odds_156 : decode cX12_odds 156 = .ok (.iload 7, 2) := by decide +kernel
theorem dX12_odds_158 : decode cX12_odds 158 = .ok (.invokestatic 188, 3) := by decide +kernel
theorem dX12_odds_161 : decode cX12_odds 161 = .ok (.ifCond .eq 7, 3) := by decide +kernel
theorem dX12_odds_164 : decode cX12_odds 164 = .ok (.iconst 1, 1) := by decide +kernel
theorem dX12_odds_165 : decode cX12_odds 165 = .ok (.goto 4, 3) := by decide +kernel
theorem dX12_odds_168 : decode cX12_odds 168 = .ok (.iconst 0, 1) := by decide +kernel
theorem dX12_odds_169 : decode cX12_odds 169 = .ok (.bastore, 1) := by decide +kernel
theorem dX12_odds_170 : decode cX12_odds 170 = .ok (.aload_n 0, 1) := by decide +kernel
theorem dX12_odds_171 : decode cX12_odds 171 = .ok (.getfield 82, 3) := by decide +kernel
theorem dX12_odds_174 : decode cX12_odds 174 = .ok (.iload 7, 2) := by decide +kernel
theorem dX12_odds_176 : decode cX12_odds 176 = .ok (.aload_n 0, 1) := by decide +kernel
theorem dX12_odds_177 : decode cX12_odds 177 = .ok (.getfield 85, 3) := by decide +kernel
theorem dX12_odds_180 : decode cX12_odds 180 = .ok (.iload 7, 2) := by decide +kernel
theorem dX12_odds_182 : decode cX12_odds 182 = .ok (.baload, 1) := by decide +kernel
theorem dX12_odds_183 : decode cX12_odds 183 = .ok (.ifCond .eq 7, 3) := by decide +kernel
theorem dX12_odds_186 : decode cX12_odds 186 = .ok (.iconst 0, 1) := by decide +kernel
theorem dX12_odds_187 : decode cX12_odds 187 = .ok (.goto 26, 3) := by decide +kernel
theorem dX12_odds_190 : decode cX12_odds 190 = .ok (.aload_n 0, 1) := by decide +kernel
theorem dX12_odds_191 : decode cX12_odds 191 = .ok (.getfield 35, 3) := by decide +kernel
theorem dX12_odds_194 : decode cX12_odds 194 = .ok (.iconst 2, 1) := by decide +kernel
theorem dX12_odds_195 : decode cX12_odds 195 = .ok (.iload 7, 2) := by decide +kernel
theorem dX12_odds_197 : decode cX12_odds 197 = .ok (.imul, 1) := by decide +kernel
theorem dX12_odds_198 : decode cX12_odds 198 = .ok (.iaload, 1) := by decide +kernel
theorem dX12_odds_199 : decode cX12_odds 199 = .ok (.aload_n 0, 1) := by decide +kernel
theorem dX12_odds_200 : decode cX12_odds 200 = .ok (.getfield 35, 3) := by decide +kernel
theorem dX12_odds_203 : decode cX12_odds 203 = .ok (.iconst 2, 1) := by decide +kernel
theorem dX12_odds_204 : decode cX12_odds 204 = .ok (.iload 7, 2) := by decide +kernel
theorem dX12_odds_206 : decode cX12_odds 206 = .ok (.imul, 1) := by decide +kernel
theorem dX12_odds_207 : decode cX12_odds 207 = .ok (.iconst 1, 1) := by decide +kernel
theorem dX12_odds_208 : decode cX12_odds 208 = .ok (.iadd, 1) := by decide +kernel
theorem dX12_odds_209 : decode cX12_odds 209 = .ok (.iaload, 1) := by decide +kernel
theorem dX12_odds_210 : decode cX12_odds 210 = .ok (.invokestatic 432, 3) := by decide +kernel
theorem dX12_odds_213 : decode cX12_odds 213 = .ok (.iastore, 1) := by decide +kernel
theorem dX12_odds_214 : decode cX12_odds 214 = .ok (.iinc 7 1, 3) := by decide +kernel
theorem dX12_odds_217 : decode cX12_odds 217 = .ok (.goto (-166), 3) := by decide +kernel
theorem dX12_odds_220 : decode cX12_odds 220 = .ok (.iload 4, 2) := by decide +kernel
theorem dX12_odds_222 : decode cX12_odds 222 = .ok (.ifCond .eq 21, 3) := by decide +kernel
theorem dX12_odds_225 : decode cX12_odds 225 = .ok (.aload_n 0, 1) := by decide +kernel
theorem dX12_odds_226 : decode cX12_odds 226 = .ok (.aload_n 0, 1) := by decide +kernel
theorem dX12_odds_227 : decode cX12_odds 227 = .ok (.getfield 63, 3) := by decide +kernel
theorem dX12_odds_230 : decode cX12_odds 230 = .ok (.invokevirtual 367, 3) := by decide +kernel
theorem dX12_odds_233 : decode cX12_odds 233 = .ok (.iconst (-1), 1) := by decide +kernel
theorem dX12_odds_234 : decode cX12_odds 234 = .ok (.if_icmp .eq 9, 3) := by decide +kernel
theorem dX12_odds_237 : decode cX12_odds 237 = .ok (.iload_n 2, 1) := by decide +kernel
theorem dX12_odds_238 : decode cX12_odds 238 = .ok (.lload 5, 2) := by decide +kernel
theorem dX12_odds_240 : decode cX12_odds 240 = .ok (.l2i, 1) := by decide +kernel
theorem dX12_odds_241 : decode cX12_odds 241 = .ok (.iadd, 1) := by decide +kernel
theorem dX12_odds_242 : decode cX12_odds 242 = .ok (.istore_n 2, 1) := by decide +kernel
theorem dX12_odds_243 : decode cX12_odds 243 = .ok (.iinc 3 1, 3) := by decide +kernel
theorem dX12_odds_246 : decode cX12_odds 246 = .ok (.goto (-216), 3) := by decide +kernel
theorem dX12_odds_249 : decode cX12_odds 249 = .ok (.iload_n 2, 1) := by decide +kernel
theorem dX12_odds_250 : decode cX12_odds 250 = .ok (.ireturn, 1) := by decide +kernel
theorem dX12_rule_0 : decode cX12_rule 0 = .ok (.aload_n 0, 1) := by decide +kernel
theorem dX12_rule_1 : decode cX12_rule 1 = .ok (.iconst 0, 1) := by decide +kernel
theorem dX12_rule_2 : decode cX12_rule 2 = .ok (.putfield 101, 3) := by decide +kernel
theorem dX12_rule_5 : decode cX12_rule 5 = .ok (.aload_n 0, 1) := by decide +kernel
theorem dX12_rule_6 : decode cX12_rule 6 = .ok (.getfield 234, 3) := by decide +kernel
theorem dX12_rule_9 : decode cX12_rule 9 = .ok (.ifCond .eq 15, 3) := by decide +kernel
theorem dX12_rule_12 : decode cX12_rule 12 = .ok (.iload_n 1, 1) := by decide +kernel
theorem dX12_rule_13 : decode cX12_rule 13 = .ok (.i2l, 1) := by decide +kernel
theorem dX12_rule_14 : decode cX12_rule 14 = .ok (.lconst 0, 1) := by decide +kernel
theorem dX12_rule_15 : decode cX12_rule 15 = .ok (.ldc2_w 460, 3) := by decide +kernel
theorem dX12_rule_18 : decode cX12_rule 18 = .ok (.invokestatic 156, 3) := by decide +kernel
theorem dX12_rule_21 : decode cX12_rule 21 = .ok (.ifCond .ne 5, 3) := by decide +kernel
theorem dX12_rule_24 : decode cX12_rule 24 = .ok (.iconst (-1), 1) := by decide +kernel
theorem dX12_rule_25 : decode cX12_rule 25 = .ok (.ireturn, 1) := by decide +kernel
theorem dX12_rule_26 : decode cX12_rule 26 = .ok (.iload_n 1, 1) := by decide +kernel
theorem dX12_rule_27 : decode cX12_rule 27 = .ok (.bipush 6, 2) := by decide +kernel
theorem dX12_rule_29 : decode cX12_rule 29 = .ok (.if_icmp .ne 10, 3) := by decide +kernel
theorem dX12_rule_32 : decode cX12_rule 32 = .ok (.aload_n 0, 1) := by decide +kernel
theorem dX12_rule_33 : decode cX12_rule 33 = .ok (.getfield 243, 3) := by decide +kernel
theorem dX12_rule_36 : decode cX12_rule 36 = .ok (.goto 22, 3) := by decide +kernel
theorem dX12_rule_39 : decode cX12_rule 39 = .ok (.iload_n 1, 1) := by decide +kernel
theorem dX12_rule_40 : decode cX12_rule 40 = .ok (.bipush 7, 2) := by decide +kernel
theorem dX12_rule_42 : decode cX12_rule 42 = .ok (.if_icmp .ne 10, 3) := by decide +kernel
theorem dX12_rule_45 : decode cX12_rule 45 = .ok (.aload_n 0, 1) := by decide +kernel
theorem dX12_rule_46 : decode cX12_rule 46 = .ok (.getfield 240, 3) := by decide +kernel
theorem dX12_rule_49 : decode cX12_rule 49 = .ok (.goto 9, 3) := by decide +kernel
theorem dX12_rule_52 : decode cX12_rule 52 = .ok (.aload_n 0, 1) := by decide +kernel
theorem dX12_rule_53 : decode cX12_rule 53 = .ok (.getfield 17, 3) := by decide +kernel
theorem dX12_rule_56 : decode cX12_rule 56 = .ok (.iload_n 1, 1) := by decide +kernel
theorem dX12_rule_57 : decode cX12_rule 57 = .ok (.iaload, 1) := by decide +kernel
theorem dX12_rule_58 : decode cX12_rule 58 = .ok (.ireturn, 1) := by decide +kernel
theorem dX12_cluster_0 : decode cX12_cluster 0 = .ok (.aload_n 0, 1) := by decide +kernel
theorem dX12_cluster_1 : decode cX12_cluster 1 = .ok (.iconst 0, 1) := by decide +kernel
theorem dX12_cluster_2 : decode cX12_cluster 2 = .ok (.putfield 101, 3) := by decide +kernel
theorem dX12_cluster_5 : decode cX12_cluster 5 = .ok (.aload_n 0, 1) := by decide +kernel
theorem dX12_cluster_6 : decode cX12_cluster 6 = .ok (.iload_n 1, 1) := by decide +kernel
theorem dX12_cluster_7 : decode cX12_cluster 7 = .ok (.invokevirtual 350, 3) := by decide +kernel
theorem dX12_cluster_10 : decode cX12_cluster 10 = .ok (.ifCond .eq 15, 3) := by decide +kernel
theorem dX12_cluster_13 : decode cX12_cluster 13 = .ok (.iload_n 2, 1) := by decide +kernel
theorem dX12_cluster_14 : decode cX12_cluster 14 = .ok (.i2l, 1) := by decide +kernel
theorem dX12_cluster_15 : decode cX12_cluster 15 = .ok (.lconst 0, 1) := by decide +kernel
theorem dX12_cluster_16 : decode cX12_cluster 16 = .ok (.ldc2_w 462, 3) := by decide +kernel
theorem dX12_cluster_19 : decode cX12_cluster 19 = .ok (.invokestatic 156, 3) := by decide +kernel
theorem dX12_cluster_22 : decode cX12_cluster 22 = .ok (.ifCond .ne 10, 3) := by decide +kernel
theorem dX12_cluster_25 : decode cX12_cluster 25 = .ok (.aload_n 0, 1) := by decide +kernel
theorem dX12_cluster_26 : decode cX12_cluster 26 = .ok (.iconst 1, 1) := by decide +kernel
theorem dX12_cluster_27 : decode cX12_cluster 27 = .ok (.putfield 101, 3) := by decide +kernel
theorem dX12_cluster_30 : decode cX12_cluster 30 = .ok (.iconst 0, 1) := by decide +kernel
theorem dX12_cluster_31 : decode cX12_cluster 31 = .ok (.ireturn, 1) := by decide +kernel
theorem dX12_cluster_32 : decode cX12_cluster 32 = .ok (.iload_n 2, 1) := by decide +kernel
theorem dX12_cluster_33 : decode cX12_cluster 33 = .ok (.tableswitch 124 0 9 #[55, 55, 55, 55, 66, 75, 84, 94, 104, 114], 55) := by decide +kernel
theorem dX12_cluster_88 : decode cX12_cluster 88 = .ok (.aload_n 0, 1) := by decide +kernel
theorem dX12_cluster_89 : decode cX12_cluster 89 = .ok (.getfield 23, 3) := by decide +kernel
theorem dX12_cluster_92 : decode cX12_cluster 92 = .ok (.iconst 4, 1) := by decide +kernel
theorem dX12_cluster_93 : decode cX12_cluster 93 = .ok (.iload_n 1, 1) := by decide +kernel
theorem dX12_cluster_94 : decode cX12_cluster 94 = .ok (.imul, 1) := by decide +kernel
theorem dX12_cluster_95 : decode cX12_cluster 95 = .ok (.iload_n 2, 1) := by decide +kernel
theorem dX12_cluster_96 : decode cX12_cluster 96 = .ok (.iadd, 1) := by decide +kernel
theorem dX12_cluster_97 : decode cX12_cluster 97 = .ok (.iaload, 1) := by decide +kernel
theorem dX12_cluster_98 : decode cX12_cluster 98 = .ok (.ireturn, 1) := by decide +kernel
theorem dX12_cluster_99 : decode cX12_cluster 99 = .ok (.aload_n 0, 1) := by decide +kernel
theorem dX12_cluster_100 : decode cX12_cluster 100 = .ok (.getfield 63, 3) := by decide +kernel
theorem dX12_cluster_103 : decode cX12_cluster 103 = .ok (.iconst 0, 1) := by decide +kernel
theorem dX12_cluster_104 : decode cX12_cluster 104 = .ok (.iload_n 1, 1) := by decide +kernel
theorem dX12_cluster_105 : decode cX12_cluster 105 = .ok (.iadd, 1) := by decide +kernel
theorem dX12_cluster_106 : decode cX12_cluster 106 = .ok (.iaload, 1) := by decide +kernel
theorem dX12_cluster_107 : decode cX12_cluster 107 = .ok (.ireturn, 1) := by decide +kernel
theorem dX12_cluster_108 : decode cX12_cluster 108 = .ok (.aload_n 0, 1) := by decide +kernel
theorem dX12_cluster_109 : decode cX12_cluster 109 = .ok (.getfield 63, 3) := by decide +kernel
theorem dX12_cluster_112 : decode cX12_cluster 112 = .ok (.iconst 3, 1) := by decide +kernel
theorem dX12_cluster_113 : decode cX12_cluster 113 = .ok (.iload_n 1, 1) := by decide +kernel
theorem dX12_cluster_114 : decode cX12_cluster 114 = .ok (.iadd, 1) := by decide +kernel
theorem dX12_cluster_115 : decode cX12_cluster 115 = .ok (.iaload, 1) := by decide +kernel
theorem dX12_cluster_116 : decode cX12_cluster 116 = .ok (.ireturn, 1) := by decide +kernel
theorem dX12_cluster_117 : decode cX12_cluster 117 = .ok (.aload_n 0, 1) := by decide +kernel
theorem dX12_cluster_118 : decode cX12_cluster 118 = .ok (.getfield 63, 3) := by decide +kernel
theorem dX12_cluster_121 : decode cX12_cluster 121 = .ok (.bipush 6, 2) := by decide +kernel
theorem dX12_cluster_123 : decode cX12_cluster 123 = .ok (.iload_n 1, 1) := by decide +kernel
theorem dX12_cluster_124 : decode cX12_cluster 124 = .ok (.iadd, 1) := by decide +kernel
theorem dX12_cluster_125 : decode cX12_cluster 125 = .ok (.iaload, 1) := by decide +kernel
theorem dX12_cluster_126 : decode cX12_cluster 126 = .ok (.ireturn, 1) := by decide +kernel
theorem dX12_cluster_127 : decode cX12_cluster 127 = .ok (.aload_n 0, 1) := by decide +kernel
theorem dX12_cluster_128 : decode cX12_cluster 128 = .ok (.aload_n 0, 1) := by decide +kernel
theorem dX12_cluster_129 : decode cX12_cluster 129 = .ok (.getfield 63, 3) := by decide +kernel
theorem dX12_cluster_132 : decode cX12_cluster 132 = .ok (.iload_n 1, 1) := by decide +kernel
theorem dX12_cluster_133 : decode cX12_cluster 133 = .ok (.invokevirtual 273, 3) := by decide +kernel
theorem dX12_cluster_136 : decode cX12_cluster 136 = .ok (.ireturn, 1) := by decide +kernel
theorem dX12_cluster_137 : decode cX12_cluster 137 = .ok (.aload_n 0, 1) := by decide +kernel
theorem dX12_cluster_138 : decode cX12_cluster 138 = .ok (.aload_n 0, 1) := by decide +kernel
theorem dX12_cluster_139 : decode cX12_cluster 139 = .ok (.getfield 63, 3) := by decide +kernel
theorem dX12_cluster_142 : decode cX12_cluster 142 = .ok (.iload_n 1, 1) := by decide +kernel
theorem dX12_cluster_143 : decode cX12_cluster 143 = .ok (.invokevirtual 277, 3) := by decide +kernel
theorem dX12_cluster_146 : decode cX12_cluster 146 = .ok (.ireturn, 1) := by decide +kernel
theorem dX12_cluster_147 : decode cX12_cluster 147 = .ok (.aload_n 0, 1) := by decide +kernel
theorem dX12_cluster_148 : decode cX12_cluster 148 = .ok (.aload_n 0, 1) := by decide +kernel
theorem dX12_cluster_149 : decode cX12_cluster 149 = .ok (.getfield 63, 3) := by decide +kernel
theorem dX12_cluster_152 : decode cX12_cluster 152 = .ok (.iload_n 1, 1) := by decide +kernel
theorem dX12_cluster_153 : decode cX12_cluster 153 = .ok (.invokevirtual 293, 3) := by decide +kernel
theorem dX12_cluster_156 : decode cX12_cluster 156 = .ok (.ireturn, 1) := by decide +kernel
theorem dX12_cluster_157 : decode cX12_cluster 157 = .ok (.aload_n 0, 1) := by decide +kernel
theorem dX12_cluster_158 : decode cX12_cluster 158 = .ok (.aload_n 0, 1) := by decide +kernel
theorem dX12_cluster_159 : decode cX12_cluster 159 = .ok (.getfield 63, 3) := by decide +kernel
theorem dX12_cluster_162 : decode cX12_cluster 162 = .ok (.iload_n 1, 1) := by decide +kernel
theorem dX12_cluster_163 : decode cX12_cluster 163 = .ok (.invokevirtual 306, 3) := by decide +kernel
theorem dX12_cluster_166 : decode cX12_cluster 166 = .ok (.ireturn, 1) := by decide +kernel
theorem dX12_point_0 : decode cX12_point 0 = .ok (.aload_n 0, 1) := by decide +kernel
theorem dX12_point_1 : decode cX12_point 1 = .ok (.iconst 0, 1) := by decide +kernel
theorem dX12_point_2 : decode cX12_point 2 = .ok (.putfield 101, 3) := by decide +kernel
theorem dX12_point_5 : decode cX12_point 5 = .ok (.aload_n 0, 1) := by decide +kernel
theorem dX12_point_6 : decode cX12_point 6 = .ok (.iload_n 1, 1) := by decide +kernel
theorem dX12_point_7 : decode cX12_point 7 = .ok (.invokevirtual 350, 3) := by decide +kernel
theorem dX12_point_10 : decode cX12_point 10 = .ok (.ifCond .eq 45, 3) := by decide +kernel
theorem dX12_point_13 : decode cX12_point 13 = .ok (.iload_n 2, 1) := by decide +kernel
theorem dX12_point_14 : decode cX12_point 14 = .ok (.i2l, 1) := by decide +kernel
theorem dX12_point_15 : decode cX12_point 15 = .ok (.lconst 0, 1) := by decide +kernel
theorem dX12_point_16 : decode cX12_point 16 = .ok (.aload_n 0, 1) := by decide +kernel
theorem dX12_point_17 : decode cX12_point 17 = .ok (.iload_n 1, 1) := by decide +kernel
theorem dX12_point_18 : decode cX12_point 18 = .ok (.invokevirtual 246, 3) := by decide +kernel
theorem dX12_point_21 : decode cX12_point 21 = .ok (.i2l, 1) := by decide +kernel
theorem dX12_point_22 : decode cX12_point 22 = .ok (.invokestatic 156, 3) := by decide +kernel
theorem dX12_point_25 : decode cX12_point 25 = .ok (.ifCond .eq 30, 3) := by decide +kernel
theorem dX12_point_28 : decode cX12_point 28 = .ok (.iload_n 3, 1) := by decide +kernel
theorem dX12_point_29 : decode cX12_point 29 = .ok (.i2l, 1) := by decide +kernel
theorem dX12_point_30 : decode cX12_point 30 = .ok (.lconst 0, 1) := by decide +kernel
theorem dX12_point_31 : decode cX12_point 31 = .ok (.lconst 1, 1) := by decide +kernel
theorem dX12_point_32 : decode cX12_point 32 = .ok (.invokestatic 156, 3) := by decide +kernel
theorem dX12_point_35 : decode cX12_point 35 = .ok (.ifCond .eq 20, 3) := by decide +kernel
theorem dX12_point_38 : decode cX12_point 38 = .ok (.aload_n 0, 1) := by decide +kernel
theorem dX12_point_39 : decode cX12_point 39 = .ok (.getfield 29, 3) := by decide +kernel
theorem dX12_point_42 : decode cX12_point 42 = .ok (.iconst 2, 1) := by decide +kernel
theorem dX12_point_43 : decode cX12_point 43 = .ok (.iconst 5, 1) := by decide +kernel
theorem dX12_point_44 : decode cX12_point 44 = .ok (.iload_n 1, 1) := by decide +kernel
theorem dX12_point_45 : decode cX12_point 45 = .ok (.imul, 1) := by decide +kernel
theorem dX12_point_46 : decode cX12_point 46 = .ok (.iload_n 2, 1) := by decide +kernel
theorem dX12_point_47 : decode cX12_point 47 = .ok (.iadd, 1) := by decide +kernel
theorem dX12_point_48 : decode cX12_point 48 = .ok (.imul, 1) := by decide +kernel
theorem dX12_point_49 : decode cX12_point 49 = .ok (.iload_n 3, 1) := by decide +kernel
theorem dX12_point_50 : decode cX12_point 50 = .ok (.iadd, 1) := by decide +kernel
theorem dX12_point_51 : decode cX12_point 51 = .ok (.iaload, 1) := by decide +kernel
theorem dX12_point_52 : decode cX12_point 52 = .ok (.goto 4, 3) := by decide +kernel
theorem dX12_point_55 : decode cX12_point 55 = .ok (.iconst (-1), 1) := by decide +kernel
theorem dX12_point_56 : decode cX12_point 56 = .ok (.ireturn, 1) := by decide +kernel
theorem dX12_sharesOn_0 : decode cX12_sharesOn 0 = .ok (.iconst 0, 1) := by decide +kernel
theorem dX12_sharesOn_1 : decode cX12_sharesOn 1 = .ok (.istore_n 2, 1) := by decide +kernel
theorem dX12_sharesOn_2 : decode cX12_sharesOn 2 = .ok (.iconst 0, 1) := by decide +kernel
theorem dX12_sharesOn_3 : decode cX12_sharesOn 3 = .ok (.istore_n 3, 1) := by decide +kernel
theorem dX12_sharesOn_4 : decode cX12_sharesOn 4 = .ok (.iload_n 3, 1) := by decide +kernel
theorem dX12_sharesOn_5 : decode cX12_sharesOn 5 = .ok (.aload_n 0, 1) := by decide +kernel
theorem dX12_sharesOn_6 : decode cX12_sharesOn 6 = .ok (.getfield 237, 3) := by decide +kernel
theorem dX12_sharesOn_9 : decode cX12_sharesOn 9 = .ok (.if_icmp .ge 38, 3) := by decide +kernel
theorem dX12_sharesOn_12 : decode cX12_sharesOn 12 = .ok (.iload_n 2, 1) := by decide +kernel
theorem dX12_sharesOn_13 : decode cX12_sharesOn 13 = .ok (.aload_n 0, 1) := by decide +kernel
theorem dX12_sharesOn_14 : decode cX12_sharesOn 14 = .ok (.getfield 63, 3) := by decide +kernel
theorem dX12_sharesOn_17 : decode cX12_sharesOn 17 = .ok (.bipush 21, 2) := by decide +kernel
theorem dX12_sharesOn_19 : decode cX12_sharesOn 19 = .ok (.iload_n 3, 1) := by decide +kernel
theorem dX12_sharesOn_20 : decode cX12_sharesOn 20 = .ok (.iadd, 1) := by decide +kernel
theorem dX12_sharesOn_21 : decode cX12_sharesOn 21 = .ok (.iaload, 1) := by decide +kernel
theorem dX12_sharesOn_22 : decode cX12_sharesOn 22 = .ok (.iload_n 1, 1) := by decide +kernel
theorem dX12_sharesOn_23 : decode cX12_sharesOn 23 = .ok (.if_icmp .ne 15, 3) := by decide +kernel
theorem dX12_sharesOn_26 : decode cX12_sharesOn 26 = .ok (.aload_n 0, 1) := by decide +kernel
theorem dX12_sharesOn_27 : decode cX12_sharesOn 27 = .ok (.aload_n 0, 1) := by decide +kernel
theorem dX12_sharesOn_28 : decode cX12_sharesOn 28 = .ok (.getfield 63, 3) := by decide +kernel
theorem dX12_sharesOn_31 : decode cX12_sharesOn 31 = .ok (.iload_n 3, 1) := by decide +kernel
theorem dX12_sharesOn_32 : decode cX12_sharesOn 32 = .ok (.invokevirtual 435, 3) := by decide +kernel
theorem dX12_sharesOn_35 : decode cX12_sharesOn 35 = .ok (.goto 4, 3) := by decide +kernel
theorem dX12_sharesOn_38 : decode cX12_sharesOn 38 = .ok (.iconst 0, 1) := by decide +kernel
theorem dX12_sharesOn_39 : decode cX12_sharesOn 39 = .ok (.iadd, 1) := by decide +kernel
theorem dX12_sharesOn_40 : decode cX12_sharesOn 40 = .ok (.istore_n 2, 1) := by decide +kernel
theorem dX12_sharesOn_41 : decode cX12_sharesOn 41 = .ok (.iinc 3 1, 3) := by decide +kernel
theorem dX12_sharesOn_44 : decode cX12_sharesOn 44 = .ok (.goto (-40), 3) := by decide +kernel
theorem dX12_sharesOn_47 : decode cX12_sharesOn 47 = .ok (.iload_n 2, 1) := by decide +kernel
theorem dX12_sharesOn_48 : decode cX12_sharesOn 48 = .ok (.ireturn, 1) := by decide +kernel
theorem dX12_tasksOn_0 : decode cX12_tasksOn 0 = .ok (.iconst 0, 1) := by decide +kernel
theorem dX12_tasksOn_1 : decode cX12_tasksOn 1 = .ok (.istore_n 2, 1) := by decide +kernel
theorem dX12_tasksOn_2 : decode cX12_tasksOn 2 = .ok (.iconst 0, 1) := by decide +kernel
theorem dX12_tasksOn_3 : decode cX12_tasksOn 3 = .ok (.istore_n 3, 1) := by decide +kernel
theorem dX12_tasksOn_4 : decode cX12_tasksOn 4 = .ok (.iload_n 3, 1) := by decide +kernel
theorem dX12_tasksOn_5 : decode cX12_tasksOn 5 = .ok (.aload_n 0, 1) := by decide +kernel
theorem dX12_tasksOn_6 : decode cX12_tasksOn 6 = .ok (.getfield 237, 3) := by decide +kernel
theorem dX12_tasksOn_9 : decode cX12_tasksOn 9 = .ok (.if_icmp .ge 32, 3) := by decide +kernel
theorem dX12_tasksOn_12 : decode cX12_tasksOn 12 = .ok (.iload_n 2, 1) := by decide +kernel
theorem dX12_tasksOn_13 : decode cX12_tasksOn 13 = .ok (.aload_n 0, 1) := by decide +kernel
theorem dX12_tasksOn_14 : decode cX12_tasksOn 14 = .ok (.getfield 63, 3) := by decide +kernel
theorem dX12_tasksOn_17 : decode cX12_tasksOn 17 = .ok (.bipush 21, 2) := by decide +kernel
theorem dX12_tasksOn_19 : decode cX12_tasksOn 19 = .ok (.iload_n 3, 1) := by decide +kernel
theorem dX12_tasksOn_20 : decode cX12_tasksOn 20 = .ok (.iadd, 1) := by decide +kernel
theorem dX12_tasksOn_21 : decode cX12_tasksOn 21 = .ok (.iaload, 1) := by decide +kernel
theorem dX12_tasksOn_22 : decode cX12_tasksOn 22 = .ok (.iload_n 1, 1) := by decide +kernel
theorem dX12_tasksOn_23 : decode cX12_tasksOn 23 = .ok (.if_icmp .ne 9, 3) := by decide +kernel
theorem dX12_tasksOn_26 : decode cX12_tasksOn 26 = .ok (.iconst 1, 1) := by decide +kernel
theorem dX12_tasksOn_27 : decode cX12_tasksOn 27 = .ok (.iload_n 3, 1) := by decide +kernel
theorem dX12_tasksOn_28 : decode cX12_tasksOn 28 = .ok (.ishl, 1) := by decide +kernel
theorem dX12_tasksOn_29 : decode cX12_tasksOn 29 = .ok (.goto 4, 3) := by decide +kernel
theorem dX12_tasksOn_32 : decode cX12_tasksOn 32 = .ok (.iconst 0, 1) := by decide +kernel
theorem dX12_tasksOn_33 : decode cX12_tasksOn 33 = .ok (.ior, 1) := by decide +kernel
theorem dX12_tasksOn_34 : decode cX12_tasksOn 34 = .ok (.istore_n 2, 1) := by decide +kernel
theorem dX12_tasksOn_35 : decode cX12_tasksOn 35 = .ok (.iinc 3 1, 3) := by decide +kernel
theorem dX12_tasksOn_38 : decode cX12_tasksOn 38 = .ok (.goto (-34), 3) := by decide +kernel
theorem dX12_tasksOn_41 : decode cX12_tasksOn 41 = .ok (.iload_n 2, 1) := by decide +kernel
theorem dX12_tasksOn_42 : decode cX12_tasksOn 42 = .ok (.ireturn, 1) := by decide +kernel
theorem dX12_core_0 : decode cX12_core 0 = .ok (.aload_n 0, 1) := by decide +kernel
theorem dX12_core_1 : decode cX12_core 1 = .ok (.iconst 0, 1) := by decide +kernel
theorem dX12_core_2 : decode cX12_core 2 = .ok (.putfield 101, 3) := by decide +kernel
theorem dX12_core_5 : decode cX12_core 5 = .ok (.aload_n 0, 1) := by decide +kernel
theorem dX12_core_6 : decode cX12_core 6 = .ok (.iload_n 1, 1) := by decide +kernel
theorem dX12_core_7 : decode cX12_core 7 = .ok (.invokevirtual 343, 3) := by decide +kernel
theorem dX12_core_10 : decode cX12_core 10 = .ok (.ifCond .eq 15, 3) := by decide +kernel
theorem dX12_core_13 : decode cX12_core 13 = .ok (.iload_n 2, 1) := by decide +kernel
theorem dX12_core_14 : decode cX12_core 14 = .ok (.i2l, 1) := by decide +kernel
theorem dX12_core_15 : decode cX12_core 15 = .ok (.lconst 0, 1) := by decide +kernel
theorem dX12_core_16 : decode cX12_core 16 = .ok (.ldc2_w 464, 3) := by decide +kernel
theorem dX12_core_19 : decode cX12_core 19 = .ok (.invokestatic 156, 3) := by decide +kernel
theorem dX12_core_22 : decode cX12_core 22 = .ok (.ifCond .ne 7, 3) := by decide +kernel
theorem dX12_core_25 : decode cX12_core 25 = .ok (.ldc_w 431, 3) := by decide +kernel
theorem dX12_core_28 : decode cX12_core 28 = .ok (.ireturn, 1) := by decide +kernel
theorem dX12_core_29 : decode cX12_core 29 = .ok (.iload_n 2, 1) := by decide +kernel
theorem dX12_core_30 : decode cX12_core 30 = .ok (.tableswitch 62 0 3 #[30, 36, 46, 56], 30) := by decide +kernel
theorem dX12_core_60 : decode cX12_core 60 = .ok (.aload_n 0, 1) := by decide +kernel
theorem dX12_core_61 : decode cX12_core 61 = .ok (.iload_n 1, 1) := by decide +kernel
theorem dX12_core_62 : decode cX12_core 62 = .ok (.invokevirtual 303, 3) := by decide +kernel
theorem dX12_core_65 : decode cX12_core 65 = .ok (.ireturn, 1) := by decide +kernel
theorem dX12_core_66 : decode cX12_core 66 = .ok (.aload_n 0, 1) := by decide +kernel
theorem dX12_core_67 : decode cX12_core 67 = .ok (.getfield 63, 3) := by decide +kernel
theorem dX12_core_70 : decode cX12_core 70 = .ok (.bipush 9, 2) := by decide +kernel
theorem dX12_core_72 : decode cX12_core 72 = .ok (.iload_n 1, 1) := by decide +kernel
theorem dX12_core_73 : decode cX12_core 73 = .ok (.iadd, 1) := by decide +kernel
theorem dX12_core_74 : decode cX12_core 74 = .ok (.iaload, 1) := by decide +kernel
theorem dX12_core_75 : decode cX12_core 75 = .ok (.ireturn, 1) := by decide +kernel
theorem dX12_core_76 : decode cX12_core 76 = .ok (.aload_n 0, 1) := by decide +kernel
theorem dX12_core_77 : decode cX12_core 77 = .ok (.getfield 63, 3) := by decide +kernel
theorem dX12_core_80 : decode cX12_core 80 = .ok (.bipush 15, 2) := by decide +kernel
theorem dX12_core_82 : decode cX12_core 82 = .ok (.iload_n 1, 1) := by decide +kernel
theorem dX12_core_83 : decode cX12_core 83 = .ok (.iadd, 1) := by decide +kernel
theorem dX12_core_84 : decode cX12_core 84 = .ok (.iaload, 1) := by decide +kernel
theorem dX12_core_85 : decode cX12_core 85 = .ok (.ireturn, 1) := by decide +kernel
theorem dX12_core_86 : decode cX12_core 86 = .ok (.aload_n 0, 1) := by decide +kernel
theorem dX12_core_87 : decode cX12_core 87 = .ok (.iload_n 1, 1) := by decide +kernel
theorem dX12_core_88 : decode cX12_core 88 = .ok (.invokevirtual 466, 3) := by decide +kernel
theorem dX12_core_91 : decode cX12_core 91 = .ok (.ireturn, 1) := by decide +kernel
theorem dX12_core_92 : decode cX12_core 92 = .ok (.aload_n 0, 1) := by decide +kernel
theorem dX12_core_93 : decode cX12_core 93 = .ok (.aload_n 0, 1) := by decide +kernel
theorem dX12_core_94 : decode cX12_core 94 = .ok (.iload_n 1, 1) := by decide +kernel
theorem dX12_core_95 : decode cX12_core 95 = .ok (.invokevirtual 303, 3) := by decide +kernel
theorem dX12_core_98 : decode cX12_core 98 = .ok (.aload_n 0, 1) := by decide +kernel
theorem dX12_core_99 : decode cX12_core 99 = .ok (.getfield 63, 3) := by decide +kernel
theorem dX12_core_102 : decode cX12_core 102 = .ok (.iconst 0, 1) := by decide +kernel
theorem dX12_core_103 : decode cX12_core 103 = .ok (.aload_n 0, 1) := by decide +kernel
theorem dX12_core_104 : decode cX12_core 104 = .ok (.iload_n 1, 1) := by decide +kernel
theorem dX12_core_105 : decode cX12_core 105 = .ok (.invokevirtual 303, 3) := by decide +kernel
theorem dX12_core_108 : decode cX12_core 108 = .ok (.iadd, 1) := by decide +kernel
theorem dX12_core_109 : decode cX12_core 109 = .ok (.iaload, 1) := by decide +kernel
theorem dX12_core_110 : decode cX12_core 110 = .ok (.invokevirtual 249, 3) := by decide +kernel
theorem dX12_core_113 : decode cX12_core 113 = .ok (.aload_n 0, 1) := by decide +kernel
theorem dX12_core_114 : decode cX12_core 114 = .ok (.iload_n 1, 1) := by decide +kernel
theorem dX12_core_115 : decode cX12_core 115 = .ok (.invokevirtual 469, 3) := by decide +kernel
theorem dX12_core_118 : decode cX12_core 118 = .ok (.isub, 1) := by decide +kernel
theorem dX12_core_119 : decode cX12_core 119 = .ok (.ireturn, 1) := by decide +kernel
theorem dX12_task_0 : decode cX12_task 0 = .ok (.aload_n 0, 1) := by decide +kernel
theorem dX12_task_1 : decode cX12_task 1 = .ok (.iconst 0, 1) := by decide +kernel
theorem dX12_task_2 : decode cX12_task 2 = .ok (.putfield 101, 3) := by decide +kernel
theorem dX12_task_5 : decode cX12_task 5 = .ok (.aload_n 0, 1) := by decide +kernel
theorem dX12_task_6 : decode cX12_task 6 = .ok (.iload_n 1, 1) := by decide +kernel
theorem dX12_task_7 : decode cX12_task 7 = .ok (.invokevirtual 339, 3) := by decide +kernel
theorem dX12_task_10 : decode cX12_task 10 = .ok (.ifCond .eq 15, 3) := by decide +kernel
theorem dX12_task_13 : decode cX12_task 13 = .ok (.iload_n 2, 1) := by decide +kernel
theorem dX12_task_14 : decode cX12_task 14 = .ok (.i2l, 1) := by decide +kernel
theorem dX12_task_15 : decode cX12_task 15 = .ok (.lconst 0, 1) := by decide +kernel
theorem dX12_task_16 : decode cX12_task 16 = .ok (.ldc2_w 460, 3) := by decide +kernel
theorem dX12_task_19 : decode cX12_task 19 = .ok (.invokestatic 156, 3) := by decide +kernel
theorem dX12_task_22 : decode cX12_task 22 = .ok (.ifCond .ne 5, 3) := by decide +kernel
theorem dX12_task_25 : decode cX12_task 25 = .ok (.iconst (-1), 1) := by decide +kernel
theorem dX12_task_26 : decode cX12_task 26 = .ok (.ireturn, 1) := by decide +kernel
theorem dX12_task_27 : decode cX12_task 27 = .ok (.iload_n 2, 1) := by decide +kernel
theorem dX12_task_28 : decode cX12_task 28 = .ok (.iconst 2, 1) := by decide +kernel
theorem dX12_task_29 : decode cX12_task 29 = .ok (.if_icmp .ge 16, 3) := by decide +kernel
theorem dX12_task_32 : decode cX12_task 32 = .ok (.aload_n 0, 1) := by decide +kernel
theorem dX12_task_33 : decode cX12_task 33 = .ok (.getfield 35, 3) := by decide +kernel
theorem dX12_task_36 : decode cX12_task 36 = .ok (.iconst 2, 1) := by decide +kernel
theorem dX12_task_37 : decode cX12_task 37 = .ok (.iload_n 1, 1) := by decide +kernel
theorem dX12_task_38 : decode cX12_task 38 = .ok (.imul, 1) := by decide +kernel
theorem dX12_task_39 : decode cX12_task 39 = .ok (.iload_n 2, 1) := by decide +kernel
theorem dX12_task_40 : decode cX12_task 40 = .ok (.iadd, 1) := by decide +kernel
theorem dX12_task_41 : decode cX12_task 41 = .ok (.iaload, 1) := by decide +kernel
theorem dX12_task_42 : decode cX12_task 42 = .ok (.goto 36, 3) := by decide +kernel
theorem dX12_task_45 : decode cX12_task 45 = .ok (.iload_n 2, 1) := by decide +kernel
theorem dX12_task_46 : decode cX12_task 46 = .ok (.bipush 7, 2) := by decide +kernel
theorem dX12_task_48 : decode cX12_task 48 = .ok (.if_icmp .ne 15, 3) := by decide +kernel
theorem dX12_task_51 : decode cX12_task 51 = .ok (.aload_n 0, 1) := by decide +kernel
theorem dX12_task_52 : decode cX12_task 52 = .ok (.aload_n 0, 1) := by decide +kernel
theorem dX12_task_53 : decode cX12_task 53 = .ok (.getfield 63, 3) := by decide +kernel
theorem dX12_task_56 : decode cX12_task 56 = .ok (.iload_n 1, 1) := by decide +kernel
theorem dX12_task_57 : decode cX12_task 57 = .ok (.invokevirtual 435, 3) := by decide +kernel
theorem dX12_task_60 : decode cX12_task 60 = .ok (.goto 18, 3) := by decide +kernel
theorem dX12_task_63 : decode cX12_task 63 = .ok (.aload_n 0, 1) := by decide +kernel
theorem dX12_task_64 : decode cX12_task 64 = .ok (.getfield 63, 3) := by decide +kernel
theorem dX12_task_67 : decode cX12_task 67 = .ok (.bipush 21, 2) := by decide +kernel
theorem dX12_task_69 : decode cX12_task 69 = .ok (.iconst 4, 1) := by decide +kernel
theorem dX12_task_70 : decode cX12_task 70 = .ok (.iload_n 2, 1) := by decide +kernel
theorem dX12_task_71 : decode cX12_task 71 = .ok (.iconst 2, 1) := by decide +kernel
theorem dX12_task_72 : decode cX12_task 72 = .ok (.isub, 1) := by decide +kernel
theorem dX12_task_73 : decode cX12_task 73 = .ok (.imul, 1) := by decide +kernel
theorem dX12_task_74 : decode cX12_task 74 = .ok (.iadd, 1) := by decide +kernel
theorem dX12_task_75 : decode cX12_task 75 = .ok (.iload_n 1, 1) := by decide +kernel
theorem dX12_task_76 : decode cX12_task 76 = .ok (.iadd, 1) := by decide +kernel
theorem dX12_task_77 : decode cX12_task 77 = .ok (.iaload, 1) := by decide +kernel
theorem dX12_task_78 : decode cX12_task 78 = .ok (.ireturn, 1) := by decide +kernel
theorem dX12_letterOf_0 : decode cX12_letterOf 0 = .ok (.iconst 0, 1) := by decide +kernel
theorem dX12_letterOf_1 : decode cX12_letterOf 1 = .ok (.istore_n 3, 1) := by decide +kernel
theorem dX12_letterOf_2 : decode cX12_letterOf 2 = .ok (.iload_n 3, 1) := by decide +kernel
theorem dX12_letterOf_3 : decode cX12_letterOf 3 = .ok (.bipush 7, 2) := by decide +kernel
theorem dX12_letterOf_5 : decode cX12_letterOf 5 = .ok (.if_icmp .ge 20, 3) := by decide +kernel
theorem dX12_letterOf_8 : decode cX12_letterOf 8 = .ok (.lload_n 0, 1) := by decide +kernel
theorem dX12_letterOf_9 : decode cX12_letterOf 9 = .ok (.bipush 8, 2) := by decide +kernel
theorem dX12_letterOf_11 : decode cX12_letterOf 11 = .ok (.iload_n 3, 1) := by decide +kernel
theorem dX12_letterOf_12 : decode cX12_letterOf 12 = .ok (.imul, 1) := by decide +kernel
theorem dX12_letterOf_13 : decode cX12_letterOf 13 = .ok (.lshr, 1) := by decide +kernel
theorem dX12_letterOf_14 : decode cX12_letterOf 14 = .ok (.lconst 0, 1) := by decide +kernel
theorem dX12_letterOf_15 : decode cX12_letterOf 15 = .ok (.lcmp, 1) := by decide +kernel
theorem dX12_letterOf_16 : decode cX12_letterOf 16 = .ok (.ifCond .eq 9, 3) := by decide +kernel
theorem dX12_letterOf_19 : decode cX12_letterOf 19 = .ok (.iinc 3 1, 3) := by decide +kernel
theorem dX12_letterOf_22 : decode cX12_letterOf 22 = .ok (.goto (-20), 3) := by decide +kernel
theorem dX12_letterOf_25 : decode cX12_letterOf 25 = .ok (.iload_n 2, 1) := by decide +kernel
theorem dX12_letterOf_26 : decode cX12_letterOf 26 = .ok (.i2l, 1) := by decide +kernel
theorem dX12_letterOf_27 : decode cX12_letterOf 27 = .ok (.lconst 0, 1) := by decide +kernel
theorem dX12_letterOf_28 : decode cX12_letterOf 28 = .ok (.iload_n 3, 1) := by decide +kernel
theorem dX12_letterOf_29 : decode cX12_letterOf 29 = .ok (.iconst 1, 1) := by decide +kernel
theorem dX12_letterOf_30 : decode cX12_letterOf 30 = .ok (.isub, 1) := by decide +kernel
theorem dX12_letterOf_31 : decode cX12_letterOf 31 = .ok (.i2l, 1) := by decide +kernel
theorem dX12_letterOf_32 : decode cX12_letterOf 32 = .ok (.invokestatic 156, 3) := by decide +kernel
theorem dX12_letterOf_35 : decode cX12_letterOf 35 = .ok (.ifCond .eq 21, 3) := by decide +kernel
theorem dX12_letterOf_38 : decode cX12_letterOf 38 = .ok (.lload_n 0, 1) := by decide +kernel
theorem dX12_letterOf_39 : decode cX12_letterOf 39 = .ok (.bipush 8, 2) := by decide +kernel
theorem dX12_letterOf_41 : decode cX12_letterOf 41 = .ok (.iload_n 3, 1) := by decide +kernel
theorem dX12_letterOf_42 : decode cX12_letterOf 42 = .ok (.iconst 1, 1) := by decide +kernel
theorem dX12_letterOf_43 : decode cX12_letterOf 43 = .ok (.isub, 1) := by decide +kernel
theorem dX12_letterOf_44 : decode cX12_letterOf 44 = .ok (.iload_n 2, 1) := by decide +kernel
theorem dX12_letterOf_45 : decode cX12_letterOf 45 = .ok (.isub, 1) := by decide +kernel
theorem dX12_letterOf_46 : decode cX12_letterOf 46 = .ok (.imul, 1) := by decide +kernel
theorem dX12_letterOf_47 : decode cX12_letterOf 47 = .ok (.lshr, 1) := by decide +kernel
theorem dX12_letterOf_48 : decode cX12_letterOf 48 = .ok (.ldc2_w 472, 3) := by decide +kernel
theorem dX12_letterOf_51 : decode cX12_letterOf 51 = .ok (.land, 1) := by decide +kernel
theorem dX12_letterOf_52 : decode cX12_letterOf 52 = .ok (.l2i, 1) := by decide +kernel
theorem dX12_letterOf_53 : decode cX12_letterOf 53 = .ok (.goto 4, 3) := by decide +kernel
theorem dX12_letterOf_56 : decode cX12_letterOf 56 = .ok (.iconst (-1), 1) := by decide +kernel
theorem dX12_letterOf_57 : decode cX12_letterOf 57 = .ok (.ireturn, 1) := by decide +kernel
theorem dX12_name_0 : decode cX12_name 0 = .ok (.aload_n 0, 1) := by decide +kernel
theorem dX12_name_1 : decode cX12_name 1 = .ok (.iconst 0, 1) := by decide +kernel
theorem dX12_name_2 : decode cX12_name 2 = .ok (.putfield 101, 3) := by decide +kernel
theorem dX12_name_5 : decode cX12_name 5 = .ok (.iload_n 1, 1) := by decide +kernel
theorem dX12_name_6 : decode cX12_name 6 = .ok (.ifCond .ne 26, 3) := by decide +kernel
theorem dX12_name_9 : decode cX12_name 9 = .ok (.aload_n 0, 1) := by decide +kernel
theorem dX12_name_10 : decode cX12_name 10 = .ok (.iload_n 2, 1) := by decide +kernel
theorem dX12_name_11 : decode cX12_name 11 = .ok (.invokevirtual 350, 3) := by decide +kernel
theorem dX12_name_14 : decode cX12_name 14 = .ok (.ifCond .eq 16, 3) := by decide +kernel
theorem dX12_name_17 : decode cX12_name 17 = .ok (.aload_n 0, 1) := by decide +kernel
theorem dX12_name_18 : decode cX12_name 18 = .ok (.getfield 45, 3) := by decide +kernel
theorem dX12_name_21 : decode cX12_name 21 = .ok (.iload_n 2, 1) := by decide +kernel
theorem dX12_name_22 : decode cX12_name 22 = .ok (.laload, 1) := by decide +kernel
theorem dX12_name_23 : decode cX12_name 23 = .ok (.iload_n 3, 1) := by decide +kernel
theorem dX12_name_24 : decode cX12_name 24 = .ok (.invokestatic 474, 3) := by decide +kernel
theorem dX12_name_27 : decode cX12_name 27 = .ok (.goto 4, 3) := by decide +kernel
theorem dX12_name_30 : decode cX12_name 30 = .ok (.iconst (-1), 1) := by decide +kernel
theorem dX12_name_31 : decode cX12_name 31 = .ok (.ireturn, 1) := by decide +kernel
theorem dX12_name_32 : decode cX12_name 32 = .ok (.iload_n 1, 1) := by decide +kernel
theorem dX12_name_33 : decode cX12_name 33 = .ok (.iconst 1, 1) := by decide +kernel
theorem dX12_name_34 : decode cX12_name 34 = .ok (.if_icmp .ne 26, 3) := by decide +kernel
theorem dX12_name_37 : decode cX12_name 37 = .ok (.aload_n 0, 1) := by decide +kernel
theorem dX12_name_38 : decode cX12_name 38 = .ok (.iload_n 2, 1) := by decide +kernel
theorem dX12_name_39 : decode cX12_name 39 = .ok (.invokevirtual 339, 3) := by decide +kernel
theorem dX12_name_42 : decode cX12_name 42 = .ok (.ifCond .eq 16, 3) := by decide +kernel
theorem dX12_name_45 : decode cX12_name 45 = .ok (.aload_n 0, 1) := by decide +kernel
theorem dX12_name_46 : decode cX12_name 46 = .ok (.getfield 51, 3) := by decide +kernel
theorem dX12_name_49 : decode cX12_name 49 = .ok (.iload_n 2, 1) := by decide +kernel
theorem dX12_name_50 : decode cX12_name 50 = .ok (.laload, 1) := by decide +kernel
theorem dX12_name_51 : decode cX12_name 51 = .ok (.iload_n 3, 1) := by decide +kernel
theorem dX12_name_52 : decode cX12_name 52 = .ok (.invokestatic 474, 3) := by decide +kernel
theorem dX12_name_55 : decode cX12_name 55 = .ok (.goto 4, 3) := by decide +kernel
theorem dX12_name_58 : decode cX12_name 58 = .ok (.iconst (-1), 1) := by decide +kernel
theorem dX12_name_59 : decode cX12_name 59 = .ok (.ireturn, 1) := by decide +kernel
theorem dX12_name_60 : decode cX12_name 60 = .ok (.iload_n 1, 1) := by decide +kernel
theorem dX12_name_61 : decode cX12_name 61 = .ok (.iconst 2, 1) := by decide +kernel
theorem dX12_name_62 : decode cX12_name 62 = .ok (.if_icmp .ne 37, 3) := by decide +kernel
theorem dX12_name_65 : decode cX12_name 65 = .ok (.iload_n 2, 1) := by decide +kernel
theorem dX12_name_66 : decode cX12_name 66 = .ok (.i2l, 1) := by decide +kernel
theorem dX12_name_67 : decode cX12_name 67 = .ok (.lconst 0, 1) := by decide +kernel
theorem dX12_name_68 : decode cX12_name 68 = .ok (.aload_n 0, 1) := by decide +kernel
theorem dX12_name_69 : decode cX12_name 69 = .ok (.getfield 63, 3) := by decide +kernel
theorem dX12_name_72 : decode cX12_name 72 = .ok (.bipush 44, 2) := by decide +kernel
theorem dX12_name_74 : decode cX12_name 74 = .ok (.iaload, 1) := by decide +kernel
theorem dX12_name_75 : decode cX12_name 75 = .ok (.iconst 1, 1) := by decide +kernel
theorem dX12_name_76 : decode cX12_name 76 = .ok (.isub, 1) := by decide +kernel
theorem dX12_name_77 : decode cX12_name 77 = .ok (.i2l, 1) := by decide +kernel
theorem dX12_name_78 : decode cX12_name 78 = .ok (.invokestatic 156, 3) := by decide +kernel
theorem dX12_name_81 : decode cX12_name 81 = .ok (.ifCond .eq 18, 3) := by decide +kernel
theorem dX12_name_84 : decode cX12_name 84 = .ok (.aload_n 0, 1) := by decide +kernel
theorem dX12_name_85 : decode cX12_name 85 = .ok (.getfield 63, 3) := by decide +kernel
theorem dX12_name_88 : decode cX12_name 88 = .ok (.iload_n 2, 1) := by decide +kernel
theorem dX12_name_89 : decode cX12_name 89 = .ok (.invokestatic 282, 3) := by decide +kernel
theorem dX12_name_92 : decode cX12_name 92 = .ok (.iload_n 3, 1) := by decide +kernel
theorem dX12_name_93 : decode cX12_name 93 = .ok (.invokestatic 474, 3) := by decide +kernel
theorem dX12_name_96 : decode cX12_name 96 = .ok (.goto 4, 3) := by decide +kernel
theorem dX12_name_99 : decode cX12_name 99 = .ok (.iconst (-1), 1) := by decide +kernel
theorem dX12_name_100 : decode cX12_name 100 = .ok (.ireturn, 1) := by decide +kernel
theorem dX12_asked_0 : decode cX12_asked 0 = .ok (.aload_n 0, 1) := by decide +kernel
theorem dX12_asked_1 : decode cX12_asked 1 = .ok (.iconst 0, 1) := by decide +kernel
theorem dX12_asked_2 : decode cX12_asked 2 = .ok (.putfield 101, 3) := by decide +kernel
theorem dX12_asked_5 : decode cX12_asked 5 = .ok (.iload_n 1, 1) := by decide +kernel
theorem dX12_asked_6 : decode cX12_asked 6 = .ok (.i2l, 1) := by decide +kernel
theorem dX12_asked_7 : decode cX12_asked 7 = .ok (.lconst 0, 1) := by decide +kernel
theorem dX12_asked_8 : decode cX12_asked 8 = .ok (.aload_n 0, 1) := by decide +kernel
theorem dX12_asked_9 : decode cX12_asked 9 = .ok (.getfield 63, 3) := by decide +kernel
theorem dX12_asked_12 : decode cX12_asked 12 = .ok (.bipush 44, 2) := by decide +kernel
theorem dX12_asked_14 : decode cX12_asked 14 = .ok (.iaload, 1) := by decide +kernel
theorem dX12_asked_15 : decode cX12_asked 15 = .ok (.iconst 1, 1) := by decide +kernel
theorem dX12_asked_16 : decode cX12_asked 16 = .ok (.isub, 1) := by decide +kernel
theorem dX12_asked_17 : decode cX12_asked 17 = .ok (.i2l, 1) := by decide +kernel
theorem dX12_asked_18 : decode cX12_asked 18 = .ok (.invokestatic 156, 3) := by decide +kernel
theorem dX12_asked_21 : decode cX12_asked 21 = .ok (.ifCond .eq 31, 3) := by decide +kernel
theorem dX12_asked_24 : decode cX12_asked 24 = .ok (.iload_n 2, 1) := by decide +kernel
theorem dX12_asked_25 : decode cX12_asked 25 = .ok (.i2l, 1) := by decide +kernel
theorem dX12_asked_26 : decode cX12_asked 26 = .ok (.lconst 0, 1) := by decide +kernel
theorem dX12_asked_27 : decode cX12_asked 27 = .ok (.ldc2_w 219, 3) := by decide +kernel
theorem dX12_asked_30 : decode cX12_asked 30 = .ok (.invokestatic 156, 3) := by decide +kernel
theorem dX12_asked_33 : decode cX12_asked 33 = .ok (.ifCond .eq 19, 3) := by decide +kernel
theorem dX12_asked_36 : decode cX12_asked 36 = .ok (.aload_n 0, 1) := by decide +kernel
theorem dX12_asked_37 : decode cX12_asked 37 = .ok (.getfield 63, 3) := by decide +kernel
theorem dX12_asked_40 : decode cX12_asked 40 = .ok (.bipush 47, 2) := by decide +kernel
theorem dX12_asked_42 : decode cX12_asked 42 = .ok (.iconst 5, 1) := by decide +kernel
theorem dX12_asked_43 : decode cX12_asked 43 = .ok (.iload_n 1, 1) := by decide +kernel
theorem dX12_asked_44 : decode cX12_asked 44 = .ok (.imul, 1) := by decide +kernel
theorem dX12_asked_45 : decode cX12_asked 45 = .ok (.iadd, 1) := by decide +kernel
theorem dX12_asked_46 : decode cX12_asked 46 = .ok (.iload_n 2, 1) := by decide +kernel
theorem dX12_asked_47 : decode cX12_asked 47 = .ok (.iadd, 1) := by decide +kernel
theorem dX12_asked_48 : decode cX12_asked 48 = .ok (.iaload, 1) := by decide +kernel
theorem dX12_asked_49 : decode cX12_asked 49 = .ok (.goto 4, 3) := by decide +kernel
theorem dX12_asked_52 : decode cX12_asked 52 = .ok (.iconst (-1), 1) := by decide +kernel
theorem dX12_asked_53 : decode cX12_asked 53 = .ok (.ireturn, 1) := by decide +kernel
theorem dX12_paceOf_0 : decode cX12_paceOf 0 = .ok (.iload_n 3, 1) := by decide +kernel
theorem dX12_paceOf_1 : decode cX12_paceOf 1 = .ok (.aload_n 0, 1) := by decide +kernel
theorem dX12_paceOf_2 : decode cX12_paceOf 2 = .ok (.iload_n 1, 1) := by decide +kernel
theorem dX12_paceOf_3 : decode cX12_paceOf 3 = .ok (.iload_n 2, 1) := by decide +kernel
theorem dX12_paceOf_4 : decode cX12_paceOf 4 = .ok (.invokevirtual 249, 3) := by decide +kernel
theorem dX12_paceOf_7 : decode cX12_paceOf 7 = .ok (.invokestatic 432, 3) := by decide +kernel
theorem dX12_paceOf_10 : decode cX12_paceOf 10 = .ok (.istore 6, 2) := by decide +kernel
theorem dX12_paceOf_12 : decode cX12_paceOf 12 = .ok (.iload 6, 2) := by decide +kernel
theorem dX12_paceOf_14 : decode cX12_paceOf 14 = .ok (.iload 4, 2) := by decide +kernel
theorem dX12_paceOf_16 : decode cX12_paceOf 16 = .ok (.if_icmp .le 5, 3) := by decide +kernel
theorem dX12_paceOf_19 : decode cX12_paceOf 19 = .ok (.iconst (-1), 1) := by decide +kernel
theorem dX12_paceOf_20 : decode cX12_paceOf 20 = .ok (.ireturn, 1) := by decide +kernel
theorem dX12_paceOf_21 : decode cX12_paceOf 21 = .ok (.iload 5, 2) := by decide +kernel
theorem dX12_paceOf_23 : decode cX12_paceOf 23 = .ok (.ifCond .eq 29, 3) := by decide +kernel
theorem dX12_paceOf_26 : decode cX12_paceOf 26 = .ok (.iload 6, 2) := by decide +kernel
theorem dX12_paceOf_28 : decode cX12_paceOf 28 = .ok (.aload_n 0, 1) := by decide +kernel
theorem dX12_paceOf_29 : decode cX12_paceOf 29 = .ok (.getfield 17, 3) := by decide +kernel
theorem dX12_paceOf_32 : decode cX12_paceOf 32 = .ok (.iconst 2, 1) := by decide +kernel
theorem dX12_paceOf_33 : decode cX12_paceOf 33 = .ok (.iaload, 1) := by decide +kernel
theorem dX12_paceOf_34 : decode cX12_paceOf 34 = .ok (.iadd, 1) := by decide +kernel
theorem dX12_paceOf_35 : decode cX12_paceOf 35 = .ok (.iload 4, 2) := by decide +kernel
theorem dX12_paceOf_37 : decode cX12_paceOf 37 = .ok (.if_icmp .ge 15, 3) := by decide +kernel
theorem dX12_paceOf_40 : decode cX12_paceOf 40 = .ok (.iload 6, 2) := by decide +kernel
theorem dX12_paceOf_42 : decode cX12_paceOf 42 = .ok (.aload_n 0, 1) := by decide +kernel
theorem dX12_paceOf_43 : decode cX12_paceOf 43 = .ok (.getfield 17, 3) := by decide +kernel
theorem dX12_paceOf_46 : decode cX12_paceOf 46 = .ok (.iconst 2, 1) := by decide +kernel
theorem dX12_paceOf_47 : decode cX12_paceOf 47 = .ok (.iaload, 1) := by decide +kernel
theorem dX12_paceOf_48 : decode cX12_paceOf 48 = .ok (.iadd, 1) := by decide +kernel
theorem dX12_paceOf_49 : decode cX12_paceOf 49 = .ok (.goto 5, 3) := by decide +kernel
theorem dX12_paceOf_52 : decode cX12_paceOf 52 = .ok (.iload 4, 2) := by decide +kernel
theorem dX12_paceOf_54 : decode cX12_paceOf 54 = .ok (.istore 7, 2) := by decide +kernel
theorem dX12_paceOf_56 : decode cX12_paceOf 56 = .ok (.aload_n 0, 1) := by decide +kernel
theorem dX12_paceOf_57 : decode cX12_paceOf 57 = .ok (.iload_n 1, 1) := by decide +kernel
theorem dX12_paceOf_58 : decode cX12_paceOf 58 = .ok (.iload_n 2, 1) := by decide +kernel
theorem dX12_paceOf_59 : decode cX12_paceOf 59 = .ok (.invokevirtual 316, 3) := by decide +kernel
theorem dX12_paceOf_62 : decode cX12_paceOf 62 = .ok (.iload_n 3, 1) := by decide +kernel
theorem dX12_paceOf_63 : decode cX12_paceOf 63 = .ok (.imul, 1) := by decide +kernel
theorem dX12_paceOf_64 : decode cX12_paceOf 64 = .ok (.aload_n 0, 1) := by decide +kernel
theorem dX12_paceOf_65 : decode cX12_paceOf 65 = .ok (.getfield 23, 3) := by decide +kernel
theorem dX12_paceOf_68 : decode cX12_paceOf 68 = .ok (.iconst 4, 1) := by decide +kernel
theorem dX12_paceOf_69 : decode cX12_paceOf 69 = .ok (.iload_n 1, 1) := by decide +kernel
theorem dX12_paceOf_70 : decode cX12_paceOf 70 = .ok (.imul, 1) := by decide +kernel
theorem dX12_paceOf_71 : decode cX12_paceOf 71 = .ok (.iconst 1, 1) := by decide +kernel
theorem dX12_paceOf_72 : decode cX12_paceOf 72 = .ok (.iadd, 1) := by decide +kernel
theorem dX12_paceOf_73 : decode cX12_paceOf 73 = .ok (.iaload, 1) := by decide +kernel
theorem dX12_paceOf_74 : decode cX12_paceOf 74 = .ok (.iload 7, 2) := by decide +kernel
theorem dX12_paceOf_76 : decode cX12_paceOf 76 = .ok (.imul, 1) := by decide +kernel
theorem dX12_paceOf_77 : decode cX12_paceOf 77 = .ok (.iadd, 1) := by decide +kernel
theorem dX12_paceOf_78 : decode cX12_paceOf 78 = .ok (.ireturn, 1) := by decide +kernel
theorem dX12_race_0 : decode cX12_race 0 = .ok (.aload_n 0, 1) := by decide +kernel
theorem dX12_race_1 : decode cX12_race 1 = .ok (.iconst 0, 1) := by decide +kernel
theorem dX12_race_2 : decode cX12_race 2 = .ok (.putfield 101, 3) := by decide +kernel
theorem dX12_race_5 : decode cX12_race 5 = .ok (.aload_n 0, 1) := by decide +kernel
theorem dX12_race_6 : decode cX12_race 6 = .ok (.iload_n 1, 1) := by decide +kernel
theorem dX12_race_7 : decode cX12_race 7 = .ok (.invokevirtual 350, 3) := by decide +kernel
theorem dX12_race_10 : decode cX12_race 10 = .ok (.ifCond .eq 40, 3) := by decide +kernel
theorem dX12_race_13 : decode cX12_race 13 = .ok (.iload_n 2, 1) := by decide +kernel
theorem dX12_race_14 : decode cX12_race 14 = .ok (.i2l, 1) := by decide +kernel
theorem dX12_race_15 : decode cX12_race 15 = .ok (.lconst 1, 1) := by decide +kernel
theorem dX12_race_16 : decode cX12_race 16 = .ok (.ldc2_w 478, 3) := by decide +kernel
theorem dX12_race_19 : decode cX12_race 19 = .ok (.invokestatic 156, 3) := by decide +kernel
theorem dX12_race_22 : decode cX12_race 22 = .ok (.ifCond .eq 28, 3) := by decide +kernel
theorem dX12_race_25 : decode cX12_race 25 = .ok (.iload_n 3, 1) := by decide +kernel
theorem dX12_race_26 : decode cX12_race 26 = .ok (.i2l, 1) := by decide +kernel
theorem dX12_race_27 : decode cX12_race 27 = .ok (.lconst 1, 1) := by decide +kernel
theorem dX12_race_28 : decode cX12_race 28 = .ok (.ldc2_w 480, 3) := by decide +kernel
theorem dX12_race_31 : decode cX12_race 31 = .ok (.invokestatic 156, 3) := by decide +kernel
theorem dX12_race_34 : decode cX12_race 34 = .ok (.ifCond .eq 16, 3) := by decide +kernel
theorem dX12_race_37 : decode cX12_race 37 = .ok (.iload 4, 2) := by decide +kernel
theorem dX12_race_39 : decode cX12_race 39 = .ok (.i2l, 1) := by decide +kernel
theorem dX12_race_40 : decode cX12_race 40 = .ok (.lconst 0, 1) := by decide +kernel
theorem dX12_race_41 : decode cX12_race 41 = .ok (.ldc2_w 219, 3) := by decide +kernel
theorem dX12_race_44 : decode cX12_race 44 = .ok (.invokestatic 156, 3) := by decide +kernel
theorem dX12_race_47 : decode cX12_race 47 = .ok (.ifCond .ne 7, 3) := by decide +kernel
theorem dX12_race_50 : decode cX12_race 50 = .ok (.ldc_w 431, 3) := by decide +kernel
theorem dX12_race_53 : decode cX12_race 53 = .ok (.ireturn, 1) := by decide +kernel
theorem dX12_race_54 : decode cX12_race 54 = .ok (.aload_n 0, 1) := by decide +kernel
theorem dX12_race_55 : decode cX12_race 55 = .ok (.iload_n 1, 1) := by decide +kernel
theorem dX12_race_56 : decode cX12_race 56 = .ok (.aload_n 0, 1) := by decide +kernel
theorem dX12_race_57 : decode cX12_race 57 = .ok (.iload_n 1, 1) := by decide +kernel
theorem dX12_race_58 : decode cX12_race 58 = .ok (.invokevirtual 246, 3) := by decide +kernel
theorem dX12_race_61 : decode cX12_race 61 = .ok (.iload_n 2, 1) := by decide +kernel
theorem dX12_race_62 : decode cX12_race 62 = .ok (.iload_n 3, 1) := by decide +kernel
theorem dX12_race_63 : decode cX12_race 63 = .ok (.iconst 1, 1) := by decide +kernel
theorem dX12_race_64 : decode cX12_race 64 = .ok (.invokevirtual 482, 3) := by decide +kernel
theorem dX12_race_67 : decode cX12_race 67 = .ok (.istore 5, 2) := by decide +kernel
theorem dX12_race_69 : decode cX12_race 69 = .ok (.aload_n 0, 1) := by decide +kernel
theorem dX12_race_70 : decode cX12_race 70 = .ok (.iload_n 1, 1) := by decide +kernel
theorem dX12_race_71 : decode cX12_race 71 = .ok (.iload_n 2, 1) := by decide +kernel
theorem dX12_race_72 : decode cX12_race 72 = .ok (.iload_n 3, 1) := by decide +kernel
theorem dX12_race_73 : decode cX12_race 73 = .ok (.invokestatic 432, 3) := by decide +kernel
theorem dX12_race_76 : decode cX12_race 76 = .ok (.invokevirtual 296, 3) := by decide +kernel
theorem dX12_race_79 : decode cX12_race 79 = .ok (.istore 6, 2) := by decide +kernel
theorem dX12_race_81 : decode cX12_race 81 = .ok (.iload 6, 2) := by decide +kernel
theorem dX12_race_83 : decode cX12_race 83 = .ok (.aload_n 0, 1) := by decide +kernel
theorem dX12_race_84 : decode cX12_race 84 = .ok (.iload_n 1, 1) := by decide +kernel
theorem dX12_race_85 : decode cX12_race 85 = .ok (.invokevirtual 246, 3) := by decide +kernel
theorem dX12_race_88 : decode cX12_race 88 = .ok (.if_icmp .le 7, 3) := by decide +kernel
theorem dX12_race_91 : decode cX12_race 91 = .ok (.iconst (-1), 1) := by decide +kernel
theorem dX12_race_92 : decode cX12_race 92 = .ok (.goto 13, 3) := by decide +kernel
theorem dX12_race_95 : decode cX12_race 95 = .ok (.aload_n 0, 1) := by decide +kernel
theorem dX12_race_96 : decode cX12_race 96 = .ok (.iload_n 1, 1) := by decide +kernel
theorem dX12_race_97 : decode cX12_race 97 = .ok (.iload 6, 2) := by decide +kernel
theorem dX12_race_99 : decode cX12_race 99 = .ok (.iload_n 2, 1) := by decide +kernel
theorem dX12_race_100 : decode cX12_race 100 = .ok (.iload_n 3, 1) := by decide +kernel
theorem dX12_race_101 : decode cX12_race 101 = .ok (.iconst 0, 1) := by decide +kernel
theorem dX12_race_102 : decode cX12_race 102 = .ok (.invokevirtual 482, 3) := by decide +kernel
theorem dX12_race_105 : decode cX12_race 105 = .ok (.istore 7, 2) := by decide +kernel
theorem dX12_race_107 : decode cX12_race 107 = .ok (.iload 4, 2) := by decide +kernel
theorem dX12_race_109 : decode cX12_race 109 = .ok (.iconst 2, 1) := by decide +kernel
theorem dX12_race_110 : decode cX12_race 110 = .ok (.if_icmp .ge 16, 3) := by decide +kernel
theorem dX12_race_113 : decode cX12_race 113 = .ok (.iload 4, 2) := by decide +kernel
theorem dX12_race_115 : decode cX12_race 115 = .ok (.ifCond .ne 8, 3) := by decide +kernel
theorem dX12_race_118 : decode cX12_race 118 = .ok (.iload 5, 2) := by decide +kernel
theorem dX12_race_120 : decode cX12_race 120 = .ok (.goto 5, 3) := by decide +kernel
theorem dX12_race_123 : decode cX12_race 123 = .ok (.iload 7, 2) := by decide +kernel
theorem dX12_race_125 : decode cX12_race 125 = .ok (.ireturn, 1) := by decide +kernel
theorem dX12_race_126 : decode cX12_race 126 = .ok (.iload 5, 2) := by decide +kernel
theorem dX12_race_128 : decode cX12_race 128 = .ok (.iconst (-1), 1) := by decide +kernel
theorem dX12_race_129 : decode cX12_race 129 = .ok (.if_icmp .ne 7, 3) := by decide +kernel
theorem dX12_race_132 : decode cX12_race 132 = .ok (.iconst (-1), 1) := by decide +kernel
theorem dX12_race_133 : decode cX12_race 133 = .ok (.goto 15, 3) := by decide +kernel
theorem dX12_race_136 : decode cX12_race 136 = .ok (.iload 5, 2) := by decide +kernel
theorem dX12_race_138 : decode cX12_race 138 = .ok (.iload 7, 2) := by decide +kernel
theorem dX12_race_140 : decode cX12_race 140 = .ok (.if_icmp .gt 7, 3) := by decide +kernel
theorem dX12_race_143 : decode cX12_race 143 = .ok (.iconst 0, 1) := by decide +kernel
theorem dX12_race_144 : decode cX12_race 144 = .ok (.goto 4, 3) := by decide +kernel
theorem dX12_race_147 : decode cX12_race 147 = .ok (.iconst 1, 1) := by decide +kernel
theorem dX12_race_148 : decode cX12_race 148 = .ok (.ireturn, 1) := by decide +kernel
theorem dX12_lates_0 : decode cX12_lates 0 = .ok (.iconst 0, 1) := by decide +kernel
theorem dX12_lates_1 : decode cX12_lates 1 = .ok (.istore_n 1, 1) := by decide +kernel
theorem dX12_lates_2 : decode cX12_lates 2 = .ok (.iconst 0, 1) := by decide +kernel
theorem dX12_lates_3 : decode cX12_lates 3 = .ok (.istore_n 2, 1) := by decide +kernel
theorem dX12_lates_4 : decode cX12_lates 4 = .ok (.iload_n 2, 1) := by decide +kernel
theorem dX12_lates_5 : decode cX12_lates 5 = .ok (.iconst 4, 1) := by decide +kernel
theorem dX12_lates_6 : decode cX12_lates 6 = .ok (.if_icmp .ge 18, 3) := by decide +kernel
theorem dX12_lates_9 : decode cX12_lates 9 = .ok (.iload_n 1, 1) := by decide +kernel
theorem dX12_lates_10 : decode cX12_lates 10 = .ok (.aload_n 0, 1) := by decide +kernel
theorem dX12_lates_11 : decode cX12_lates 11 = .ok (.bipush 33, 2) := by decide +kernel
theorem dX12_lates_13 : decode cX12_lates 13 = .ok (.iload_n 2, 1) := by decide +kernel
theorem dX12_lates_14 : decode cX12_lates 14 = .ok (.iadd, 1) := by decide +kernel
theorem dX12_lates_15 : decode cX12_lates 15 = .ok (.iaload, 1) := by decide +kernel
theorem dX12_lates_16 : decode cX12_lates 16 = .ok (.iadd, 1) := by decide +kernel
theorem dX12_lates_17 : decode cX12_lates 17 = .ok (.istore_n 1, 1) := by decide +kernel
theorem dX12_lates_18 : decode cX12_lates 18 = .ok (.iinc 2 1, 3) := by decide +kernel
theorem dX12_lates_21 : decode cX12_lates 21 = .ok (.goto (-17), 3) := by decide +kernel
theorem dX12_lates_24 : decode cX12_lates 24 = .ok (.iload_n 1, 1) := by decide +kernel
theorem dX12_lates_25 : decode cX12_lates 25 = .ok (.ireturn, 1) := by decide +kernel
theorem dX12_goesOn__0 : decode cX12_goesOn_ 0 = .ok (.aload_n 0, 1) := by decide +kernel
theorem dX12_goesOn__1 : decode cX12_goesOn_ 1 = .ok (.getfield 63, 3) := by decide +kernel
theorem dX12_goesOn__4 : decode cX12_goesOn_ 4 = .ok (.iconst 0, 1) := by decide +kernel
theorem dX12_goesOn__5 : decode cX12_goesOn_ 5 = .ok (.aload_n 0, 1) := by decide +kernel
theorem dX12_goesOn__6 : decode cX12_goesOn_ 6 = .ok (.getfield 66, 3) := by decide +kernel
theorem dX12_goesOn__9 : decode cX12_goesOn_ 9 = .ok (.iconst 0, 1) := by decide +kernel
theorem dX12_goesOn__10 : decode cX12_goesOn_ 10 = .ok (.invokestatic 333, 3) := by decide +kernel
theorem dX12_goesOn__13 : decode cX12_goesOn_ 13 = .ok (.iconst 0, 1) := by decide +kernel
theorem dX12_goesOn__14 : decode cX12_goesOn_ 14 = .ok (.istore_n 2, 1) := by decide +kernel
theorem dX12_goesOn__15 : decode cX12_goesOn_ 15 = .ok (.iload_n 2, 1) := by decide +kernel
theorem dX12_goesOn__16 : decode cX12_goesOn_ 16 = .ok (.iload_n 1, 1) := by decide +kernel
theorem dX12_goesOn__17 : decode cX12_goesOn_ 17 = .ok (.if_icmp .ge 18, 3) := by decide +kernel
theorem dX12_goesOn__20 : decode cX12_goesOn_ 20 = .ok (.aload_n 0, 1) := by decide +kernel
theorem dX12_goesOn__21 : decode cX12_goesOn_ 21 = .ok (.aload_n 0, 1) := by decide +kernel
theorem dX12_goesOn__22 : decode cX12_goesOn_ 22 = .ok (.getfield 66, 3) := by decide +kernel
theorem dX12_goesOn__25 : decode cX12_goesOn_ 25 = .ok (.invokevirtual 376, 3) := by decide +kernel
theorem dX12_goesOn__28 : decode cX12_goesOn_ 28 = .ok (.istore_n 3, 1) := by decide +kernel
theorem dX12_goesOn__29 : decode cX12_goesOn_ 29 = .ok (.iinc 2 1, 3) := by decide +kernel
theorem dX12_goesOn__32 : decode cX12_goesOn_ 32 = .ok (.goto (-17), 3) := by decide +kernel
theorem dX12_goesOn__35 : decode cX12_goesOn_ 35 = .ok (.return_, 1) := by decide +kernel
theorem dX12_ahead_0 : decode cX12_ahead 0 = .ok (.aload_n 0, 1) := by decide +kernel
theorem dX12_ahead_1 : decode cX12_ahead 1 = .ok (.iconst 0, 1) := by decide +kernel
theorem dX12_ahead_2 : decode cX12_ahead 2 = .ok (.putfield 101, 3) := by decide +kernel
theorem dX12_ahead_5 : decode cX12_ahead 5 = .ok (.aload_n 0, 1) := by decide +kernel
theorem dX12_ahead_6 : decode cX12_ahead 6 = .ok (.getfield 234, 3) := by decide +kernel
theorem dX12_ahead_9 : decode cX12_ahead 9 = .ok (.ifCond .eq 46, 3) := by decide +kernel
theorem dX12_ahead_12 : decode cX12_ahead 12 = .ok (.iload_n 1, 1) := by decide +kernel
theorem dX12_ahead_13 : decode cX12_ahead 13 = .ok (.i2l, 1) := by decide +kernel
theorem dX12_ahead_14 : decode cX12_ahead 14 = .ok (.lconst 0, 1) := by decide +kernel
theorem dX12_ahead_15 : decode cX12_ahead 15 = .ok (.ldc2_w 486, 3) := by decide +kernel
theorem dX12_ahead_18 : decode cX12_ahead 18 = .ok (.invokestatic 156, 3) := by decide +kernel
theorem dX12_ahead_21 : decode cX12_ahead 21 = .ok (.ifCond .eq 34, 3) := by decide +kernel
theorem dX12_ahead_24 : decode cX12_ahead 24 = .ok (.aload_n 0, 1) := by decide +kernel
theorem dX12_ahead_25 : decode cX12_ahead 25 = .ok (.getfield 63, 3) := by decide +kernel
theorem dX12_ahead_28 : decode cX12_ahead 28 = .ok (.bipush 41, 2) := by decide +kernel
theorem dX12_ahead_30 : decode cX12_ahead 30 = .ok (.iaload, 1) := by decide +kernel
theorem dX12_ahead_31 : decode cX12_ahead 31 = .ok (.iload_n 1, 1) := by decide +kernel
theorem dX12_ahead_32 : decode cX12_ahead 32 = .ok (.iadd, 1) := by decide +kernel
theorem dX12_ahead_33 : decode cX12_ahead 33 = .ok (.sipush 9999, 3) := by decide +kernel
theorem dX12_ahead_36 : decode cX12_ahead 36 = .ok (.if_icmp .gt 19, 3) := by decide +kernel
theorem dX12_ahead_39 : decode cX12_ahead 39 = .ok (.iload_n 2, 1) := by decide +kernel
theorem dX12_ahead_40 : decode cX12_ahead 40 = .ok (.i2l, 1) := by decide +kernel
theorem dX12_ahead_41 : decode cX12_ahead 41 = .ok (.lconst 0, 1) := by decide +kernel
theorem dX12_ahead_42 : decode cX12_ahead 42 = .ok (.iconst 2, 1) := by decide +kernel
theorem dX12_ahead_43 : decode cX12_ahead 43 = .ok (.aload_n 0, 1) := by decide +kernel
theorem dX12_ahead_44 : decode cX12_ahead 44 = .ok (.getfield 234, 3) := by decide +kernel
theorem dX12_ahead_47 : decode cX12_ahead 47 = .ok (.iadd, 1) := by decide +kernel
theorem dX12_ahead_48 : decode cX12_ahead 48 = .ok (.i2l, 1) := by decide +kernel
theorem dX12_ahead_49 : decode cX12_ahead 49 = .ok (.invokestatic 156, 3) := by decide +kernel
theorem dX12_ahead_52 : decode cX12_ahead 52 = .ok (.ifCond .ne 5, 3) := by decide +kernel
theorem dX12_ahead_55 : decode cX12_ahead 55 = .ok (.iconst (-1), 1) := by decide +kernel
theorem dX12_ahead_56 : decode cX12_ahead 56 = .ok (.ireturn, 1) := by decide +kernel
theorem dX12_ahead_57 : decode cX12_ahead 57 = .ok (.aload_n 0, 1) := by decide +kernel
theorem dX12_ahead_58 : decode cX12_ahead 58 = .ok (.iload_n 1, 1) := by decide +kernel
theorem dX12_ahead_59 : decode cX12_ahead 59 = .ok (.invokevirtual 488, 3) := by decide +kernel
theorem dX12_ahead_62 : decode cX12_ahead 62 = .ok (.iload_n 2, 1) := by decide +kernel
theorem dX12_ahead_63 : decode cX12_ahead 63 = .ok (.ifCond .ne 13, 3) := by decide +kernel
theorem dX12_ahead_66 : decode cX12_ahead 66 = .ok (.aload_n 0, 1) := by decide +kernel
theorem dX12_ahead_67 : decode cX12_ahead 67 = .ok (.getfield 66, 3) := by decide +kernel
theorem dX12_ahead_70 : decode cX12_ahead 70 = .ok (.bipush 43, 2) := by decide +kernel
theorem dX12_ahead_72 : decode cX12_ahead 72 = .ok (.iaload, 1) := by decide +kernel
theorem dX12_ahead_73 : decode cX12_ahead 73 = .ok (.goto 43, 3) := by decide +kernel
theorem dX12_ahead_76 : decode cX12_ahead 76 = .ok (.iload_n 2, 1) := by decide +kernel
theorem dX12_ahead_77 : decode cX12_ahead 77 = .ok (.iconst 1, 1) := by decide +kernel
theorem dX12_ahead_78 : decode cX12_ahead 78 = .ok (.if_icmp .ne 13, 3) := by decide +kernel
theorem dX12_ahead_81 : decode cX12_ahead 81 = .ok (.aload_n 0, 1) := by decide +kernel
theorem dX12_ahead_82 : decode cX12_ahead 82 = .ok (.getfield 66, 3) := by decide +kernel
theorem dX12_ahead_85 : decode cX12_ahead 85 = .ok (.invokestatic 490, 3) := by decide +kernel
theorem dX12_ahead_88 : decode cX12_ahead 88 = .ok (.goto 28, 3) := by decide +kernel
theorem dX12_ahead_91 : decode cX12_ahead 91 = .ok (.iload_n 2, 1) := by decide +kernel
theorem dX12_ahead_92 : decode cX12_ahead 92 = .ok (.iconst 2, 1) := by decide +kernel
theorem dX12_ahead_93 : decode cX12_ahead 93 = .ok (.if_icmp .ne 13, 3) := by decide +kernel
theorem dX12_ahead_96 : decode cX12_ahead 96 = .ok (.aload_n 0, 1) := by decide +kernel
theorem dX12_ahead_97 : decode cX12_ahead 97 = .ok (.getfield 66, 3) := by decide +kernel
theorem dX12_ahead_100 : decode cX12_ahead 100 = .ok (.bipush 42, 2) := by decide +kernel
theorem dX12_ahead_102 : decode cX12_ahead 102 = .ok (.iaload, 1) := by decide +kernel
theorem dX12_ahead_103 : decode cX12_ahead 103 = .ok (.goto 13, 3) := by decide +kernel
theorem dX12_ahead_106 : decode cX12_ahead 106 = .ok (.aload_n 0, 1) := by decide +kernel
theorem dX12_ahead_107 : decode cX12_ahead 107 = .ok (.getfield 66, 3) := by decide +kernel
theorem dX12_ahead_110 : decode cX12_ahead 110 = .ok (.iconst 0, 1) := by decide +kernel
theorem dX12_ahead_111 : decode cX12_ahead 111 = .ok (.iload_n 2, 1) := by decide +kernel
theorem dX12_ahead_112 : decode cX12_ahead 112 = .ok (.iadd, 1) := by decide +kernel
theorem dX12_ahead_113 : decode cX12_ahead 113 = .ok (.iconst 3, 1) := by decide +kernel
theorem dX12_ahead_114 : decode cX12_ahead 114 = .ok (.isub, 1) := by decide +kernel
theorem dX12_ahead_115 : decode cX12_ahead 115 = .ok (.iaload, 1) := by decide +kernel
theorem dX12_ahead_116 : decode cX12_ahead 116 = .ok (.ireturn, 1) := by decide +kernel
theorem dX12_bound_0 : decode cX12_bound 0 = .ok (.aload_n 0, 1) := by decide +kernel
theorem dX12_bound_1 : decode cX12_bound 1 = .ok (.iconst 0, 1) := by decide +kernel
theorem dX12_bound_2 : decode cX12_bound 2 = .ok (.putfield 101, 3) := by decide +kernel
theorem dX12_bound_5 : decode cX12_bound 5 = .ok (.aload_n 0, 1) := by decide +kernel
theorem dX12_bound_6 : decode cX12_bound 6 = .ok (.iload_n 1, 1) := by decide +kernel
theorem dX12_bound_7 : decode cX12_bound 7 = .ok (.invokevirtual 350, 3) := by decide +kernel
theorem dX12_bound_10 : decode cX12_bound 10 = .ok (.ifCond .eq 30, 3) := by decide +kernel
theorem dX12_bound_13 : decode cX12_bound 13 = .ok (.iload_n 2, 1) := by decide +kernel
theorem dX12_bound_14 : decode cX12_bound 14 = .ok (.i2l, 1) := by decide +kernel
theorem dX12_bound_15 : decode cX12_bound 15 = .ok (.lconst 1, 1) := by decide +kernel
theorem dX12_bound_16 : decode cX12_bound 16 = .ok (.ldc2_w 456, 3) := by decide +kernel
theorem dX12_bound_19 : decode cX12_bound 19 = .ok (.invokestatic 156, 3) := by decide +kernel
theorem dX12_bound_22 : decode cX12_bound 22 = .ok (.ifCond .eq 18, 3) := by decide +kernel
theorem dX12_bound_25 : decode cX12_bound 25 = .ok (.aload_n 0, 1) := by decide +kernel
theorem dX12_bound_26 : decode cX12_bound 26 = .ok (.getfield 63, 3) := by decide +kernel
theorem dX12_bound_29 : decode cX12_bound 29 = .ok (.bipush 41, 2) := by decide +kernel
theorem dX12_bound_31 : decode cX12_bound 31 = .ok (.iaload, 1) := by decide +kernel
theorem dX12_bound_32 : decode cX12_bound 32 = .ok (.iload_n 2, 1) := by decide +kernel
theorem dX12_bound_33 : decode cX12_bound 33 = .ok (.iadd, 1) := by decide +kernel
theorem dX12_bound_34 : decode cX12_bound 34 = .ok (.sipush 9999, 3) := by decide +kernel
theorem dX12_bound_37 : decode cX12_bound 37 = .ok (.if_icmp .le 5, 3) := by decide +kernel
theorem dX12_bound_40 : decode cX12_bound 40 = .ok (.iconst (-1), 1) := by decide +kernel
theorem dX12_bound_41 : decode cX12_bound 41 = .ok (.ireturn, 1) := by decide +kernel
theorem dX12_bound_42 : decode cX12_bound 42 = .ok (.iconst (-1), 1) := by decide +kernel
theorem dX12_bound_43 : decode cX12_bound 43 = .ok (.istore_n 3, 1) := by decide +kernel
theorem dX12_bound_44 : decode cX12_bound 44 = .ok (.aload_n 0, 1) := by decide +kernel
theorem dX12_bound_45 : decode cX12_bound 45 = .ok (.iload_n 1, 1) := by decide +kernel
theorem dX12_bound_46 : decode cX12_bound 46 = .ok (.putfield 75, 3) := by decide +kernel
theorem dX12_bound_49 : decode cX12_bound 49 = .ok (.iconst 0, 1) := by decide +kernel
theorem dX12_bound_50 : decode cX12_bound 50 = .ok (.istore 4, 2) := by decide +kernel
theorem dX12_bound_52 : decode cX12_bound 52 = .ok (.iload 4, 2) := by decide +kernel
theorem dX12_bound_54 : decode cX12_bound 54 = .ok (.aload_n 0, 1) := by decide +kernel
theorem dX12_bound_55 : decode cX12_bound 55 = .ok (.iload_n 1, 1) := by decide +kernel
theorem dX12_bound_56 : decode cX12_bound 56 = .ok (.invokevirtual 246, 3) := by decide +kernel
theorem dX12_bound_59 : decode cX12_bound 59 = .ok (.if_icmp .gt 45, 3) := by decide +kernel
theorem dX12_bound_62 : decode cX12_bound 62 = .ok (.iload_n 3, 1) := by decide +kernel
theorem dX12_bound_63 : decode cX12_bound 63 = .ok (.iconst (-1), 1) := by decide +kernel
theorem dX12_bound_64 : decode cX12_bound 64 = .ok (.if_icmp .ne 40, 3) := by decide +kernel
theorem dX12_bound_67 : decode cX12_bound 67 = .ok (.aload_n 0, 1) := by decide +kernel
theorem dX12_bound_68 : decode cX12_bound 68 = .ok (.iload 4, 2) := by decide +kernel
theorem dX12_bound_70 : decode cX12_bound 70 = .ok (.putfield 270, 3) := by decide +kernel
theorem dX12_bound_73 : decode cX12_bound 73 = .ok (.aload_n 0, 1) := by decide +kernel
theorem dX12_bound_74 : decode cX12_bound 74 = .ok (.iload_n 2, 1) := by decide +kernel
theorem dX12_bound_75 : decode cX12_bound 75 = .ok (.invokevirtual 488, 3) := by decide +kernel
theorem dX12_bound_78 : decode cX12_bound 78 = .ok (.aload_n 0, 1) := by decide +kernel
theorem dX12_bound_79 : decode cX12_bound 79 = .ok (.getfield 66, 3) := by decide +kernel
theorem dX12_bound_82 : decode cX12_bound 82 = .ok (.invokestatic 490, 3) := by decide +kernel
theorem dX12_bound_85 : decode cX12_bound 85 = .ok (.aload_n 0, 1) := by decide +kernel
theorem dX12_bound_86 : decode cX12_bound 86 = .ok (.getfield 63, 3) := by decide +kernel
theorem dX12_bound_89 : decode cX12_bound 89 = .ok (.invokestatic 490, 3) := by decide +kernel
theorem dX12_bound_92 : decode cX12_bound 92 = .ok (.if_icmp .ne 6, 3) := by decide +kernel
theorem dX12_bound_95 : decode cX12_bound 95 = .ok (.iload 4, 2) := by decide +kernel
theorem dX12_bound_97 : decode cX12_bound 97 = .ok (.istore_n 3, 1) := by decide +kernel
theorem dX12_bound_98 : decode cX12_bound 98 = .ok (.iinc 4 1, 3) := by decide +kernel
theorem dX12_bound_101 : decode cX12_bound 101 = .ok (.goto (-49), 3) := by decide +kernel
theorem dX12_bound_104 : decode cX12_bound 104 = .ok (.aload_n 0, 1) := by decide +kernel
theorem dX12_bound_105 : decode cX12_bound 105 = .ok (.iconst (-1), 1) := by decide +kernel
theorem dX12_bound_106 : decode cX12_bound 106 = .ok (.putfield 75, 3) := by decide +kernel
theorem dX12_bound_109 : decode cX12_bound 109 = .ok (.iload_n 3, 1) := by decide +kernel
theorem dX12_bound_110 : decode cX12_bound 110 = .ok (.ireturn, 1) := by decide +kernel
theorem dX12_isScript_0 : decode cX12_isScript 0 = .ok (.iload_n 1, 1) := by decide +kernel
theorem dX12_isScript_1 : decode cX12_isScript 1 = .ok (.i2l, 1) := by decide +kernel
theorem dX12_isScript_2 : decode cX12_isScript 2 = .ok (.lconst 0, 1) := by decide +kernel
theorem dX12_isScript_3 : decode cX12_isScript 3 = .ok (.aload_n 0, 1) := by decide +kernel
theorem dX12_isScript_4 : decode cX12_isScript 4 = .ok (.getfield 252, 3) := by decide +kernel
theorem dX12_isScript_7 : decode cX12_isScript 7 = .ok (.iconst 1, 1) := by decide +kernel
theorem dX12_isScript_8 : decode cX12_isScript 8 = .ok (.isub, 1) := by decide +kernel
theorem dX12_isScript_9 : decode cX12_isScript 9 = .ok (.i2l, 1) := by decide +kernel
theorem dX12_isScript_10 : decode cX12_isScript 10 = .ok (.invokestatic 156, 3) := by decide +kernel
theorem dX12_isScript_13 : decode cX12_isScript 13 = .ok (.ireturn, 1) := by decide +kernel
theorem dX12_step_0 : decode cX12_step 0 = .ok (.aload_n 0, 1) := by decide +kernel
theorem dX12_step_1 : decode cX12_step 1 = .ok (.iconst 0, 1) := by decide +kernel
theorem dX12_step_2 : decode cX12_step 2 = .ok (.putfield 101, 3) := by decide +kernel
theorem dX12_step_5 : decode cX12_step 5 = .ok (.aload_n 0, 1) := by decide +kernel
theorem dX12_step_6 : decode cX12_step 6 = .ok (.iload_n 1, 1) := by decide +kernel
theorem dX12_step_7 : decode cX12_step 7 = .ok (.invokevirtual 493, 3) := by decide +kernel
theorem dX12_step_10 : decode cX12_step 10 = .ok (.ifCond .eq 33, 3) := by decide +kernel
theorem dX12_step_13 : decode cX12_step 13 = .ok (.iload_n 2, 1) := by decide +kernel
theorem dX12_step_14 : decode cX12_step 14 = .ok (.i2l, 1) := by decide +kernel
theorem dX12_step_15 : decode cX12_step 15 = .ok (.lconst 0, 1) := by decide +kernel
theorem dX12_step_16 : decode cX12_step 16 = .ok (.aload_n 0, 1) := by decide +kernel
theorem dX12_step_17 : decode cX12_step 17 = .ok (.getfield 57, 3) := by decide +kernel
theorem dX12_step_20 : decode cX12_step 20 = .ok (.iload_n 1, 1) := by decide +kernel
theorem dX12_step_21 : decode cX12_step 21 = .ok (.iaload, 1) := by decide +kernel
theorem dX12_step_22 : decode cX12_step 22 = .ok (.iconst 1, 1) := by decide +kernel
theorem dX12_step_23 : decode cX12_step 23 = .ok (.isub, 1) := by decide +kernel
theorem dX12_step_24 : decode cX12_step 24 = .ok (.i2l, 1) := by decide +kernel
theorem dX12_step_25 : decode cX12_step 25 = .ok (.invokestatic 156, 3) := by decide +kernel
theorem dX12_step_28 : decode cX12_step 28 = .ok (.ifCond .eq 15, 3) := by decide +kernel
theorem dX12_step_31 : decode cX12_step 31 = .ok (.iload_n 3, 1) := by decide +kernel
theorem dX12_step_32 : decode cX12_step 32 = .ok (.i2l, 1) := by decide +kernel
theorem dX12_step_33 : decode cX12_step 33 = .ok (.lconst 0, 1) := by decide +kernel
theorem dX12_step_34 : decode cX12_step 34 = .ok (.ldc2_w 429, 3) := by decide +kernel
theorem dX12_step_37 : decode cX12_step 37 = .ok (.invokestatic 156, 3) := by decide +kernel
theorem dX12_step_40 : decode cX12_step 40 = .ok (.ifCond .ne 7, 3) := by decide +kernel
theorem dX12_step_43 : decode cX12_step 43 = .ok (.ldc_w 431, 3) := by decide +kernel
theorem dX12_step_46 : decode cX12_step 46 = .ok (.ireturn, 1) := by decide +kernel
theorem dX12_step_47 : decode cX12_step 47 = .ok (.aload_n 0, 1) := by decide +kernel
theorem dX12_step_48 : decode cX12_step 48 = .ok (.getfield 54, 3) := by decide +kernel
theorem dX12_step_51 : decode cX12_step 51 = .ok (.iconst 4, 1) := by decide +kernel
theorem dX12_step_52 : decode cX12_step 52 = .ok (.bipush 12, 2) := by decide +kernel
theorem dX12_step_54 : decode cX12_step 54 = .ok (.iload_n 1, 1) := by decide +kernel
theorem dX12_step_55 : decode cX12_step 55 = .ok (.imul, 1) := by decide +kernel
theorem dX12_step_56 : decode cX12_step 56 = .ok (.iload_n 2, 1) := by decide +kernel
theorem dX12_step_57 : decode cX12_step 57 = .ok (.iadd, 1) := by decide +kernel
theorem dX12_step_58 : decode cX12_step 58 = .ok (.imul, 1) := by decide +kernel
theorem dX12_step_59 : decode cX12_step 59 = .ok (.iload_n 3, 1) := by decide +kernel
theorem dX12_step_60 : decode cX12_step 60 = .ok (.iadd, 1) := by decide +kernel
theorem dX12_step_61 : decode cX12_step 61 = .ok (.iaload, 1) := by decide +kernel
theorem dX12_step_62 : decode cX12_step 62 = .ok (.ireturn, 1) := by decide +kernel
theorem dX12_run_0 : decode cX12_run 0 = .ok (.aload_n 0, 1) := by decide +kernel
theorem dX12_run_1 : decode cX12_run 1 = .ok (.iconst 0, 1) := by decide +kernel
theorem dX12_run_2 : decode cX12_run 2 = .ok (.putfield 101, 3) := by decide +kernel
theorem dX12_run_5 : decode cX12_run 5 = .ok (.aload_n 0, 1) := by decide +kernel
theorem dX12_run_6 : decode cX12_run 6 = .ok (.iload_n 1, 1) := by decide +kernel
theorem dX12_run_7 : decode cX12_run 7 = .ok (.invokevirtual 493, 3) := by decide +kernel
theorem dX12_run_10 : decode cX12_run 10 = .ok (.ifCond .eq 20, 3) := by decide +kernel
theorem dX12_run_13 : decode cX12_run 13 = .ok (.aload_n 0, 1) := by decide +kernel
theorem dX12_run_14 : decode cX12_run 14 = .ok (.getfield 234, 3) := by decide +kernel
theorem dX12_run_17 : decode cX12_run 17 = .ok (.ifCond .eq 13, 3) := by decide +kernel
theorem dX12_run_20 : decode cX12_run 20 = .ok (.iload_n 2, 1) := by decide +kernel
theorem dX12_run_21 : decode cX12_run 21 = .ok (.i2l, 1) := by decide +kernel
theorem dX12_run_22 : decode cX12_run 22 = .ok (.lconst 0, 1) := by decide +kernel
theorem dX12_run_23 : decode cX12_run 23 = .ok (.lconst 1, 1) := by decide +kernel
theorem dX12_run_24 : decode cX12_run 24 = .ok (.invokestatic 156, 3) := by decide +kernel
theorem dX12_run_27 : decode cX12_run 27 = .ok (.ifCond .ne 7, 3) := by decide +kernel
theorem dX12_run_30 : decode cX12_run 30 = .ok (.ldc_w 431, 3) := by decide +kernel
theorem dX12_run_33 : decode cX12_run 33 = .ok (.ireturn, 1) := by decide +kernel
theorem dX12_run_34 : decode cX12_run 34 = .ok (.aload_n 0, 1) := by decide +kernel
theorem dX12_run_35 : decode cX12_run 35 = .ok (.getfield 63, 3) := by decide +kernel
theorem dX12_run_38 : decode cX12_run 38 = .ok (.iconst 0, 1) := by decide +kernel
theorem dX12_run_39 : decode cX12_run 39 = .ok (.aload_n 0, 1) := by decide +kernel
theorem dX12_run_40 : decode cX12_run 40 = .ok (.getfield 66, 3) := by decide +kernel
theorem dX12_run_43 : decode cX12_run 43 = .ok (.iconst 0, 1) := by decide +kernel
theorem dX12_run_44 : decode cX12_run 44 = .ok (.invokestatic 333, 3) := by decide +kernel
theorem dX12_run_47 : decode cX12_run 47 = .ok (.iconst 0, 1) := by decide +kernel
theorem dX12_run_48 : decode cX12_run 48 = .ok (.istore_n 3, 1) := by decide +kernel
theorem dX12_run_49 : decode cX12_run 49 = .ok (.iconst 1, 1) := by decide +kernel
theorem dX12_run_50 : decode cX12_run 50 = .ok (.istore 4, 2) := by decide +kernel
theorem dX12_run_52 : decode cX12_run 52 = .ok (.iload 4, 2) := by decide +kernel
theorem dX12_run_54 : decode cX12_run 54 = .ok (.ifCond .eq 147, 3) := by decide +kernel
theorem dX12_run_57 : decode cX12_run 57 = .ok (.iload_n 3, 1) := by decide +kernel
theorem dX12_run_58 : decode cX12_run 58 = .ok (.aload_n 0, 1) := by decide +kernel
theorem dX12_run_59 : decode cX12_run 59 = .ok (.getfield 57, 3) := by decide +kernel
theorem dX12_run_62 : decode cX12_run 62 = .ok (.iload_n 1, 1) := by decide +kernel
theorem dX12_run_63 : decode cX12_run 63 = .ok (.iaload, 1) := by decide +kernel
theorem dX12_run_64 : decode cX12_run 64 = .ok (.if_icmp .ge 137, 3) := by decide +kernel
theorem dX12_run_67 : decode cX12_run 67 = .ok (.iconst 4, 1) := by decide +kernel
theorem dX12_run_68 : decode cX12_run 68 = .ok (.bipush 12, 2) := by decide +kernel
theorem dX12_run_70 : decode cX12_run 70 = .ok (.iload_n 1, 1) := by decide +kernel
theorem dX12_run_71 : decode cX12_run 71 = .ok (.imul, 1) := by decide +kernel
theorem dX12_run_72 : decode cX12_run 72 = .ok (.iload_n 3, 1) := by decide +kernel
theorem dX12_run_73 : decode cX12_run 73 = .ok (.iadd, 1) := by decide +kernel
theorem dX12_run_74 : decode cX12_run 74 = .ok (.imul, 1) := by decide +kernel
theorem dX12_run_75 : decode cX12_run 75 = .ok (.istore 5, 2) := by decide +kernel
theorem dX12_run_77 : decode cX12_run 77 = .ok (.aload_n 0, 1) := by decide +kernel
theorem dX12_run_78 : decode cX12_run 78 = .ok (.aload_n 0, 1) := by decide +kernel
theorem dX12_run_79 : decode cX12_run 79 = .ok (.getfield 60, 3) := by decide +kernel
theorem dX12_run_82 : decode cX12_run 82 = .ok (.bipush 12, 2) := by decide +kernel
theorem dX12_run_84 : decode cX12_run 84 = .ok (.iload_n 1, 1) := by decide +kernel
theorem dX12_run_85 : decode cX12_run 85 = .ok (.imul, 1) := by decide +kernel
theorem dX12_run_86 : decode cX12_run 86 = .ok (.iload_n 3, 1) := by decide +kernel
theorem dX12_run_87 : decode cX12_run 87 = .ok (.iadd, 1) := by decide +kernel
theorem dX12_run_88 : decode cX12_run 88 = .ok (.laload, 1) := by decide +kernel
theorem dX12_run_89 : decode cX12_run 89 = .ok (.putfield 353, 3) := by decide +kernel
theorem dX12_run_92 : decode cX12_run 92 = .ok (.aload_n 0, 1) := by decide +kernel
theorem dX12_run_93 : decode cX12_run 93 = .ok (.aload_n 0, 1) := by decide +kernel
theorem dX12_run_94 : decode cX12_run 94 = .ok (.getfield 66, 3) := by decide +kernel
theorem dX12_run_97 : decode cX12_run 97 = .ok (.aload_n 0, 1) := by decide +kernel
theorem dX12_run_98 : decode cX12_run 98 = .ok (.getfield 54, 3) := by decide +kernel
theorem dX12_run_101 : decode cX12_run 101 = .ok (.iload 5, 2) := by decide +kernel
theorem dX12_run_103 : decode cX12_run 103 = .ok (.iaload, 1) := by decide +kernel
theorem dX12_run_104 : decode cX12_run 104 = .ok (.aload_n 0, 1) := by decide +kernel
theorem dX12_run_105 : decode cX12_run 105 = .ok (.getfield 54, 3) := by decide +kernel
theorem dX12_run_108 : decode cX12_run 108 = .ok (.iload 5, 2) := by decide +kernel
theorem dX12_run_110 : decode cX12_run 110 = .ok (.iconst 1, 1) := by decide +kernel
theorem dX12_run_111 : decode cX12_run 111 = .ok (.iadd, 1) := by decide +kernel
theorem dX12_run_112 : decode cX12_run 112 = .ok (.iaload, 1) := by decide +kernel
theorem dX12_run_113 : decode cX12_run 113 = .ok (.aload_n 0, 1) := by decide +kernel
theorem dX12_run_114 : decode cX12_run 114 = .ok (.getfield 54, 3) := by decide +kernel
theorem dX12_run_117 : decode cX12_run 117 = .ok (.iload 5, 2) := by decide +kernel
theorem dX12_run_119 : decode cX12_run 119 = .ok (.iconst 2, 1) := by decide +kernel
theorem dX12_run_120 : decode cX12_run 120 = .ok (.iadd, 1) := by decide +kernel
theorem dX12_run_121 : decode cX12_run 121 = .ok (.iaload, 1) := by decide +kernel
theorem dX12_run_122 : decode cX12_run 122 = .ok (.aload_n 0, 1) := by decide +kernel
theorem dX12_run_123 : decode cX12_run 123 = .ok (.getfield 54, 3) := by decide +kernel
theorem dX12_run_126 : decode cX12_run 126 = .ok (.iload 5, 2) := by decide +kernel
theorem dX12_run_128 : decode cX12_run 128 = .ok (.iconst 3, 1) := by decide +kernel
theorem dX12_run_129 : decode cX12_run 129 = .ok (.iadd, 1) := by decide +kernel
theorem dX12_run_130 : decode cX12_run 130 = .ok (.iaload, 1) := by decide +kernel
theorem dX12_run_131 : decode cX12_run 131 = .ok (.invokevirtual 389, 3) := by decide +kernel
theorem dX12_run_134 : decode cX12_run 134 = .ok (.iconst (-1), 1) := by decide +kernel
theorem dX12_run_135 : decode cX12_run 135 = .ok (.if_icmp .ne 7, 3) := by decide +kernel
theorem dX12_run_138 : decode cX12_run 138 = .ok (.iconst 1, 1) := by decide +kernel
theorem dX12_run_139 : decode cX12_run 139 = .ok (.goto 4, 3) := by decide +kernel
theorem dX12_run_142 : decode cX12_run 142 = .ok (.iconst 0, 1) := by decide +kernel
theorem dX12_run_143 : decode cX12_run 143 = .ok (.istore 4, 2) := by decide +kernel
theorem dX12_run_145 : decode cX12_run 145 = .ok (.iload 4, 2) := by decide +kernel
theorem dX12_run_147 : decode cX12_run 147 = .ok (.ifCond .ne 6, 3) := by decide +kernel
theorem dX12_run_150 : decode cX12_run 150 = .ok (.goto (-98), 3) := by decide +kernel
theorem dX12_run_153 : decode cX12_run 153 = .ok (.aload_n 0, 1) := by decide +kernel
theorem dX12_run_154 : decode cX12_run 154 = .ok (.aload_n 0, 1) := by decide +kernel
theorem dX12_run_155 : decode cX12_run 155 = .ok (.getfield 66, 3) := by decide +kernel
theorem dX12_run_158 : decode cX12_run 158 = .ok (.aload_n 0, 1) := by decide +kernel
theorem dX12_run_159 : decode cX12_run 159 = .ok (.getfield 54, 3) := by decide +kernel
theorem dX12_run_162 : decode cX12_run 162 = .ok (.iload 5, 2) := by decide +kernel
theorem dX12_run_164 : decode cX12_run 164 = .ok (.iaload, 1) := by decide +kernel
theorem dX12_run_165 : decode cX12_run 165 = .ok (.aload_n 0, 1) := by decide +kernel
theorem dX12_run_166 : decode cX12_run 166 = .ok (.getfield 54, 3) := by decide +kernel
theorem dX12_run_169 : decode cX12_run 169 = .ok (.iload 5, 2) := by decide +kernel
theorem dX12_run_171 : decode cX12_run 171 = .ok (.iconst 1, 1) := by decide +kernel
theorem dX12_run_172 : decode cX12_run 172 = .ok (.iadd, 1) := by decide +kernel
theorem dX12_run_173 : decode cX12_run 173 = .ok (.iaload, 1) := by decide +kernel
theorem dX12_run_174 : decode cX12_run 174 = .ok (.aload_n 0, 1) := by decide +kernel
theorem dX12_run_175 : decode cX12_run 175 = .ok (.getfield 54, 3) := by decide +kernel
theorem dX12_run_178 : decode cX12_run 178 = .ok (.iload 5, 2) := by decide +kernel
theorem dX12_run_180 : decode cX12_run 180 = .ok (.iconst 2, 1) := by decide +kernel
theorem dX12_run_181 : decode cX12_run 181 = .ok (.iadd, 1) := by decide +kernel
theorem dX12_run_182 : decode cX12_run 182 = .ok (.iaload, 1) := by decide +kernel
theorem dX12_run_183 : decode cX12_run 183 = .ok (.aload_n 0, 1) := by decide +kernel
theorem dX12_run_184 : decode cX12_run 184 = .ok (.getfield 54, 3) := by decide +kernel
theorem dX12_run_187 : decode cX12_run 187 = .ok (.iload 5, 2) := by decide +kernel
theorem dX12_run_189 : decode cX12_run 189 = .ok (.iconst 3, 1) := by decide +kernel
theorem dX12_run_190 : decode cX12_run 190 = .ok (.iadd, 1) := by decide +kernel
theorem dX12_run_191 : decode cX12_run 191 = .ok (.iaload, 1) := by decide +kernel
theorem dX12_run_192 : decode cX12_run 192 = .ok (.invokevirtual 396, 3) := by decide +kernel
theorem dX12_run_195 : decode cX12_run 195 = .ok (.iinc 3 1, 3) := by decide +kernel
theorem dX12_run_198 : decode cX12_run 198 = .ok (.goto (-146), 3) := by decide +kernel
theorem dX12_run_201 : decode cX12_run 201 = .ok (.iload_n 2, 1) := by decide +kernel
theorem dX12_run_202 : decode cX12_run 202 = .ok (.iconst 1, 1) := by decide +kernel
theorem dX12_run_203 : decode cX12_run 203 = .ok (.if_icmp .ne 13, 3) := by decide +kernel
theorem dX12_run_206 : decode cX12_run 206 = .ok (.aload_n 0, 1) := by decide +kernel
theorem dX12_run_207 : decode cX12_run 207 = .ok (.getfield 66, 3) := by decide +kernel
theorem dX12_run_210 : decode cX12_run 210 = .ok (.bipush 43, 2) := by decide +kernel
theorem dX12_run_212 : decode cX12_run 212 = .ok (.iaload, 1) := by decide +kernel
theorem dX12_run_213 : decode cX12_run 213 = .ok (.goto 18, 3) := by decide +kernel
theorem dX12_run_216 : decode cX12_run 216 = .ok (.iload_n 3, 1) := by decide +kernel
theorem dX12_run_217 : decode cX12_run 217 = .ok (.aload_n 0, 1) := by decide +kernel
theorem dX12_run_218 : decode cX12_run 218 = .ok (.getfield 57, 3) := by decide +kernel
theorem dX12_run_221 : decode cX12_run 221 = .ok (.iload_n 1, 1) := by decide +kernel
theorem dX12_run_222 : decode cX12_run 222 = .ok (.iaload, 1) := by decide +kernel
theorem dX12_run_223 : decode cX12_run 223 = .ok (.if_icmp .ne 7, 3) := by decide +kernel
theorem dX12_run_226 : decode cX12_run 226 = .ok (.iconst (-1), 1) := by decide +kernel
theorem dX12_run_227 : decode cX12_run 227 = .ok (.goto 4, 3) := by decide +kernel
theorem dX12_run_230 : decode cX12_run 230 = .ok (.iload_n 3, 1) := by decide +kernel
theorem dX12_run_231 : decode cX12_run 231 = .ok (.ireturn, 1) := by decide +kernel
theorem dX12_perform_0 : decode cX12_perform 0 = .ok (.aload_n 0, 1) := by decide +kernel
theorem dX12_perform_1 : decode cX12_perform 1 = .ok (.iconst 0, 1) := by decide +kernel
theorem dX12_perform_2 : decode cX12_perform 2 = .ok (.putfield 101, 3) := by decide +kernel
theorem dX12_perform_5 : decode cX12_perform 5 = .ok (.aload_n 0, 1) := by decide +kernel
theorem dX12_perform_6 : decode cX12_perform 6 = .ok (.iload_n 1, 1) := by decide +kernel
theorem dX12_perform_7 : decode cX12_perform 7 = .ok (.invokevirtual 493, 3) := by decide +kernel
theorem dX12_perform_10 : decode cX12_perform 10 = .ok (.ifCond .eq 10, 3) := by decide +kernel
theorem dX12_perform_13 : decode cX12_perform 13 = .ok (.aload_n 0, 1) := by decide +kernel
theorem dX12_perform_14 : decode cX12_perform 14 = .ok (.getfield 234, 3) := by decide +kernel
theorem dX12_perform_17 : decode cX12_perform 17 = .ok (.ifCond .ne 5, 3) := by decide +kernel
theorem dX12_perform_20 : decode cX12_perform 20 = .ok (.iconst (-1), 1) := by decide +kernel
theorem dX12_perform_21 : decode cX12_perform 21 = .ok (.ireturn, 1) := by decide +kernel
theorem dX12_perform_22 : decode cX12_perform 22 = .ok (.iconst 0, 1) := by decide +kernel
theorem dX12_perform_23 : decode cX12_perform 23 = .ok (.istore_n 2, 1) := by decide +kernel
theorem dX12_perform_24 : decode cX12_perform 24 = .ok (.iconst 1, 1) := by decide +kernel
theorem dX12_perform_25 : decode cX12_perform 25 = .ok (.istore_n 3, 1) := by decide +kernel
theorem dX12_perform_26 : decode cX12_perform 26 = .ok (.iload_n 3, 1) := by decide +kernel
theorem dX12_perform_27 : decode cX12_perform 27 = .ok (.ifCond .eq 96, 3) := by decide +kernel
theorem dX12_perform_30 : decode cX12_perform 30 = .ok (.iload_n 2, 1) := by decide +kernel
theorem dX12_perform_31 : decode cX12_perform 31 = .ok (.aload_n 0, 1) := by decide +kernel
theorem dX12_perform_32 : decode cX12_perform 32 = .ok (.getfield 57, 3) := by decide +kernel
theorem dX12_perform_35 : decode cX12_perform 35 = .ok (.iload_n 1, 1) := by decide +kernel
theorem dX12_perform_36 : decode cX12_perform 36 = .ok (.iaload, 1) := by decide +kernel
theorem dX12_perform_37 : decode cX12_perform 37 = .ok (.if_icmp .ge 86, 3) := by decide +kernel
theorem dX12_perform_40 : decode cX12_perform 40 = .ok (.iconst 4, 1) := by decide +kernel
theorem dX12_perform_41 : decode cX12_perform 41 = .ok (.bipush 12, 2) := by decide +kernel
theorem dX12_perform_43 : decode cX12_perform 43 = .ok (.iload_n 1, 1) := by decide +kernel
theorem dX12_perform_44 : decode cX12_perform 44 = .ok (.imul, 1) := by decide +kernel
theorem dX12_perform_45 : decode cX12_perform 45 = .ok (.iload_n 2, 1) := by decide +kernel
theorem dX12_perform_46 : decode cX12_perform 46 = .ok (.iadd, 1) := by decide +kernel
theorem dX12_perform_47 : decode cX12_perform 47 = .ok (.imul, 1) := by decide +kernel
theorem dX12_perform_48 : decode cX12_perform 48 = .ok (.istore 4, 2) := by decide +kernel
theorem dX12_perform_50 : decode cX12_perform 50 = .ok (.aload_n 0, 1) := by decide +kernel
theorem dX12_perform_51 : decode cX12_perform 51 = .ok (.aload_n 0, 1) := by decide +kernel
theorem dX12_perform_52 : decode cX12_perform 52 = .ok (.getfield 60, 3) := by decide +kernel
theorem dX12_perform_55 : decode cX12_perform 55 = .ok (.bipush 12, 2) := by decide +kernel
theorem dX12_perform_57 : decode cX12_perform 57 = .ok (.iload_n 1, 1) := by decide +kernel
theorem dX12_perform_58 : decode cX12_perform 58 = .ok (.imul, 1) := by decide +kernel
theorem dX12_perform_59 : decode cX12_perform 59 = .ok (.iload_n 2, 1) := by decide +kernel
theorem dX12_perform_60 : decode cX12_perform 60 = .ok (.iadd, 1) := by decide +kernel
theorem dX12_perform_61 : decode cX12_perform 61 = .ok (.laload, 1) := by decide +kernel
theorem dX12_perform_62 : decode cX12_perform 62 = .ok (.putfield 353, 3) := by decide +kernel
theorem dX12_perform_65 : decode cX12_perform 65 = .ok (.aload_n 0, 1) := by decide +kernel
theorem dX12_perform_66 : decode cX12_perform 66 = .ok (.aload_n 0, 1) := by decide +kernel
theorem dX12_perform_67 : decode cX12_perform 67 = .ok (.getfield 54, 3) := by decide +kernel
theorem dX12_perform_70 : decode cX12_perform 70 = .ok (.iload 4, 2) := by decide +kernel
theorem dX12_perform_72 : decode cX12_perform 72 = .ok (.iaload, 1) := by decide +kernel
theorem dX12_perform_73 : decode cX12_perform 73 = .ok (.aload_n 0, 1) := by decide +kernel
theorem dX12_perform_74 : decode cX12_perform 74 = .ok (.getfield 54, 3) := by decide +kernel
theorem dX12_perform_77 : decode cX12_perform 77 = .ok (.iload 4, 2) := by decide +kernel
theorem dX12_perform_79 : decode cX12_perform 79 = .ok (.iconst 1, 1) := by decide +kernel
theorem dX12_perform_80 : decode cX12_perform 80 = .ok (.iadd, 1) := by decide +kernel
theorem dX12_perform_81 : decode cX12_perform 81 = .ok (.iaload, 1) := by decide +kernel
theorem dX12_perform_82 : decode cX12_perform 82 = .ok (.aload_n 0, 1) := by decide +kernel
theorem dX12_perform_83 : decode cX12_perform 83 = .ok (.getfield 54, 3) := by decide +kernel
theorem dX12_perform_86 : decode cX12_perform 86 = .ok (.iload 4, 2) := by decide +kernel
theorem dX12_perform_88 : decode cX12_perform 88 = .ok (.iconst 2, 1) := by decide +kernel
theorem dX12_perform_89 : decode cX12_perform 89 = .ok (.iadd, 1) := by decide +kernel
theorem dX12_perform_90 : decode cX12_perform 90 = .ok (.iaload, 1) := by decide +kernel
theorem dX12_perform_91 : decode cX12_perform 91 = .ok (.aload_n 0, 1) := by decide +kernel
theorem dX12_perform_92 : decode cX12_perform 92 = .ok (.getfield 54, 3) := by decide +kernel
theorem dX12_perform_95 : decode cX12_perform 95 = .ok (.iload 4, 2) := by decide +kernel
theorem dX12_perform_97 : decode cX12_perform 97 = .ok (.iconst 3, 1) := by decide +kernel
theorem dX12_perform_98 : decode cX12_perform 98 = .ok (.iadd, 1) := by decide +kernel
theorem dX12_perform_99 : decode cX12_perform 99 = .ok (.iaload, 1) := by decide +kernel
theorem dX12_perform_100 : decode cX12_perform 100 = .ok (.invokevirtual 404, 3) := by decide +kernel
theorem dX12_perform_103 : decode cX12_perform 103 = .ok (.iconst (-1), 1) := by decide +kernel
theorem dX12_perform_104 : decode cX12_perform 104 = .ok (.if_icmp .ne 7, 3) := by decide +kernel
theorem dX12_perform_107 : decode cX12_perform 107 = .ok (.iconst 1, 1) := by decide +kernel
theorem dX12_perform_108 : decode cX12_perform 108 = .ok (.goto 4, 3) := by decide +kernel
theorem dX12_perform_111 : decode cX12_perform 111 = .ok (.iconst 0, 1) := by decide +kernel
theorem dX12_perform_112 : decode cX12_perform 112 = .ok (.istore_n 3, 1) := by decide +kernel
theorem dX12_perform_113 : decode cX12_perform 113 = .ok (.iload_n 3, 1) := by decide +kernel
theorem dX12_perform_114 : decode cX12_perform 114 = .ok (.ifCond .eq 6, 3) := by decide +kernel
theorem dX12_perform_117 : decode cX12_perform 117 = .ok (.iinc 2 1, 3) := by decide +kernel
theorem dX12_perform_120 : decode cX12_perform 120 = .ok (.goto (-94), 3) := by decide +kernel
theorem dX12_perform_123 : decode cX12_perform 123 = .ok (.iload_n 2, 1) := by decide +kernel
theorem dX12_perform_124 : decode cX12_perform 124 = .ok (.ireturn, 1) := by decide +kernel
theorem dX12_bitsOf_0 : decode cX12_bitsOf 0 = .ok (.iconst 0, 1) := by decide +kernel
theorem dX12_bitsOf_1 : decode cX12_bitsOf 1 = .ok (.istore_n 3, 1) := by decide +kernel
theorem dX12_bitsOf_2 : decode cX12_bitsOf 2 = .ok (.iconst 0, 1) := by decide +kernel
theorem dX12_bitsOf_3 : decode cX12_bitsOf 3 = .ok (.istore 4, 2) := by decide +kernel
theorem dX12_bitsOf_5 : decode cX12_bitsOf 5 = .ok (.iload 4, 2) := by decide +kernel
theorem dX12_bitsOf_7 : decode cX12_bitsOf 7 = .ok (.iload_n 2, 1) := by decide +kernel
theorem dX12_bitsOf_8 : decode cX12_bitsOf 8 = .ok (.if_icmp .ge 32, 3) := by decide +kernel
theorem dX12_bitsOf_11 : decode cX12_bitsOf 11 = .ok (.iload_n 3, 1) := by decide +kernel
theorem dX12_bitsOf_12 : decode cX12_bitsOf 12 = .ok (.aload_n 0, 1) := by decide +kernel
theorem dX12_bitsOf_13 : decode cX12_bitsOf 13 = .ok (.getfield 63, 3) := by decide +kernel
theorem dX12_bitsOf_16 : decode cX12_bitsOf 16 = .ok (.iload_n 1, 1) := by decide +kernel
theorem dX12_bitsOf_17 : decode cX12_bitsOf 17 = .ok (.iload 4, 2) := by decide +kernel
theorem dX12_bitsOf_19 : decode cX12_bitsOf 19 = .ok (.iadd, 1) := by decide +kernel
theorem dX12_bitsOf_20 : decode cX12_bitsOf 20 = .ok (.iaload, 1) := by decide +kernel
theorem dX12_bitsOf_21 : decode cX12_bitsOf 21 = .ok (.ifCond .le 10, 3) := by decide +kernel
theorem dX12_bitsOf_24 : decode cX12_bitsOf 24 = .ok (.iconst 1, 1) := by decide +kernel
theorem dX12_bitsOf_25 : decode cX12_bitsOf 25 = .ok (.iload 4, 2) := by decide +kernel
theorem dX12_bitsOf_27 : decode cX12_bitsOf 27 = .ok (.ishl, 1) := by decide +kernel
theorem dX12_bitsOf_28 : decode cX12_bitsOf 28 = .ok (.goto 4, 3) := by decide +kernel
theorem dX12_bitsOf_31 : decode cX12_bitsOf 31 = .ok (.iconst 0, 1) := by decide +kernel
theorem dX12_bitsOf_32 : decode cX12_bitsOf 32 = .ok (.ior, 1) := by decide +kernel
theorem dX12_bitsOf_33 : decode cX12_bitsOf 33 = .ok (.istore_n 3, 1) := by decide +kernel
theorem dX12_bitsOf_34 : decode cX12_bitsOf 34 = .ok (.iinc 4 1, 3) := by decide +kernel
theorem dX12_bitsOf_37 : decode cX12_bitsOf 37 = .ok (.goto (-32), 3) := by decide +kernel
theorem dX12_bitsOf_40 : decode cX12_bitsOf 40 = .ok (.iload_n 3, 1) := by decide +kernel
theorem dX12_bitsOf_41 : decode cX12_bitsOf 41 = .ok (.ireturn, 1) := by decide +kernel
theorem dX12_loadest_0 : decode cX12_loadest 0 = .ok (.iconst (-1), 1) := by decide +kernel
theorem dX12_loadest_1 : decode cX12_loadest 1 = .ok (.istore_n 1, 1) := by decide +kernel
theorem dX12_loadest_2 : decode cX12_loadest 2 = .ok (.iconst 0, 1) := by decide +kernel
theorem dX12_loadest_3 : decode cX12_loadest 3 = .ok (.istore_n 2, 1) := by decide +kernel
theorem dX12_loadest_4 : decode cX12_loadest 4 = .ok (.iload_n 2, 1) := by decide +kernel
theorem dX12_loadest_5 : decode cX12_loadest 5 = .ok (.aload_n 0, 1) := by decide +kernel
theorem dX12_loadest_6 : decode cX12_loadest 6 = .ok (.getfield 237, 3) := by decide +kernel
theorem dX12_loadest_9 : decode cX12_loadest 9 = .ok (.if_icmp .ge 37, 3) := by decide +kernel
theorem dX12_loadest_12 : decode cX12_loadest 12 = .ok (.iload_n 1, 1) := by decide +kernel
theorem dX12_loadest_13 : decode cX12_loadest 13 = .ok (.iconst (-1), 1) := by decide +kernel
theorem dX12_loadest_14 : decode cX12_loadest 14 = .ok (.if_icmp .eq 24, 3) := by decide +kernel
theorem dX12_loadest_17 : decode cX12_loadest 17 = .ok (.aload_n 0, 1) := by decide +kernel
theorem dX12_loadest_18 : decode cX12_loadest 18 = .ok (.getfield 63, 3) := by decide +kernel
theorem dX12_loadest_21 : decode cX12_loadest 21 = .ok (.bipush 29, 2) := by decide +kernel
theorem dX12_loadest_23 : decode cX12_loadest 23 = .ok (.iload_n 2, 1) := by decide +kernel
theorem dX12_loadest_24 : decode cX12_loadest 24 = .ok (.iadd, 1) := by decide +kernel
theorem dX12_loadest_25 : decode cX12_loadest 25 = .ok (.iaload, 1) := by decide +kernel
theorem dX12_loadest_26 : decode cX12_loadest 26 = .ok (.aload_n 0, 1) := by decide +kernel
theorem dX12_loadest_27 : decode cX12_loadest 27 = .ok (.getfield 63, 3) := by decide +kernel
theorem dX12_loadest_30 : decode cX12_loadest 30 = .ok (.bipush 29, 2) := by decide +kernel
theorem dX12_loadest_32 : decode cX12_loadest 32 = .ok (.iload_n 1, 1) := by decide +kernel
theorem dX12_loadest_33 : decode cX12_loadest 33 = .ok (.iadd, 1) := by decide +kernel
theorem dX12_loadest_34 : decode cX12_loadest 34 = .ok (.iaload, 1) := by decide +kernel
theorem dX12_loadest_35 : decode cX12_loadest 35 = .ok (.if_icmp .le 5, 3) := by decide +kernel
theorem dX12_loadest_38 : decode cX12_loadest 38 = .ok (.iload_n 2, 1) := by decide +kernel
theorem dX12_loadest_39 : decode cX12_loadest 39 = .ok (.istore_n 1, 1) := by decide +kernel
theorem dX12_loadest_40 : decode cX12_loadest 40 = .ok (.iinc 2 1, 3) := by decide +kernel
theorem dX12_loadest_43 : decode cX12_loadest 43 = .ok (.goto (-39), 3) := by decide +kernel
theorem dX12_loadest_46 : decode cX12_loadest 46 = .ok (.iload_n 1, 1) := by decide +kernel
theorem dX12_loadest_47 : decode cX12_loadest 47 = .ok (.ireturn, 1) := by decide +kernel
theorem dX12_fullest_0 : decode cX12_fullest 0 = .ok (.iconst 0, 1) := by decide +kernel
theorem dX12_fullest_1 : decode cX12_fullest 1 = .ok (.istore_n 1, 1) := by decide +kernel
theorem dX12_fullest_2 : decode cX12_fullest 2 = .ok (.iconst 1, 1) := by decide +kernel
theorem dX12_fullest_3 : decode cX12_fullest 3 = .ok (.istore_n 2, 1) := by decide +kernel
theorem dX12_fullest_4 : decode cX12_fullest 4 = .ok (.iload_n 2, 1) := by decide +kernel
theorem dX12_fullest_5 : decode cX12_fullest 5 = .ok (.aload_n 0, 1) := by decide +kernel
theorem dX12_fullest_6 : decode cX12_fullest 6 = .ok (.getfield 240, 3) := by decide +kernel
theorem dX12_fullest_9 : decode cX12_fullest 9 = .ok (.if_icmp .ge 24, 3) := by decide +kernel
theorem dX12_fullest_12 : decode cX12_fullest 12 = .ok (.aload_n 0, 1) := by decide +kernel
theorem dX12_fullest_13 : decode cX12_fullest 13 = .ok (.iload_n 2, 1) := by decide +kernel
theorem dX12_fullest_14 : decode cX12_fullest 14 = .ok (.invokevirtual 469, 3) := by decide +kernel
theorem dX12_fullest_17 : decode cX12_fullest 17 = .ok (.aload_n 0, 1) := by decide +kernel
theorem dX12_fullest_18 : decode cX12_fullest 18 = .ok (.iload_n 1, 1) := by decide +kernel
theorem dX12_fullest_19 : decode cX12_fullest 19 = .ok (.invokevirtual 469, 3) := by decide +kernel
theorem dX12_fullest_22 : decode cX12_fullest 22 = .ok (.if_icmp .le 5, 3) := by decide +kernel
theorem dX12_fullest_25 : decode cX12_fullest 25 = .ok (.iload_n 2, 1) := by decide +kernel
theorem dX12_fullest_26 : decode cX12_fullest 26 = .ok (.istore_n 1, 1) := by decide +kernel
theorem dX12_fullest_27 : decode cX12_fullest 27 = .ok (.iinc 2 1, 3) := by decide +kernel
theorem dX12_fullest_30 : decode cX12_fullest 30 = .ok (.goto (-26), 3) := by decide +kernel
theorem dX12_fullest_33 : decode cX12_fullest 33 = .ok (.iload_n 1, 1) := by decide +kernel
theorem dX12_fullest_34 : decode cX12_fullest 34 = .ok (.ireturn, 1) := by decide +kernel
theorem dX12_shares_0 : decode cX12_shares 0 = .ok (.iconst 0, 1) := by decide +kernel
theorem dX12_shares_1 : decode cX12_shares 1 = .ok (.istore_n 1, 1) := by decide +kernel
theorem dX12_shares_2 : decode cX12_shares 2 = .ok (.iconst 0, 1) := by decide +kernel
theorem dX12_shares_3 : decode cX12_shares 3 = .ok (.istore_n 2, 1) := by decide +kernel
theorem dX12_shares_4 : decode cX12_shares 4 = .ok (.iload_n 2, 1) := by decide +kernel
theorem dX12_shares_5 : decode cX12_shares 5 = .ok (.aload_n 0, 1) := by decide +kernel
theorem dX12_shares_6 : decode cX12_shares 6 = .ok (.getfield 237, 3) := by decide +kernel
theorem dX12_shares_9 : decode cX12_shares 9 = .ok (.if_icmp .ge 21, 3) := by decide +kernel
theorem dX12_shares_12 : decode cX12_shares 12 = .ok (.iload_n 1, 1) := by decide +kernel
theorem dX12_shares_13 : decode cX12_shares 13 = .ok (.aload_n 0, 1) := by decide +kernel
theorem dX12_shares_14 : decode cX12_shares 14 = .ok (.aload_n 0, 1) := by decide +kernel
theorem dX12_shares_15 : decode cX12_shares 15 = .ok (.getfield 63, 3) := by decide +kernel
theorem dX12_shares_18 : decode cX12_shares 18 = .ok (.iload_n 2, 1) := by decide +kernel
theorem dX12_shares_19 : decode cX12_shares 19 = .ok (.invokevirtual 435, 3) := by decide +kernel
theorem dX12_shares_22 : decode cX12_shares 22 = .ok (.iadd, 1) := by decide +kernel
theorem dX12_shares_23 : decode cX12_shares 23 = .ok (.istore_n 1, 1) := by decide +kernel
theorem dX12_shares_24 : decode cX12_shares 24 = .ok (.iinc 2 1, 3) := by decide +kernel
theorem dX12_shares_27 : decode cX12_shares 27 = .ok (.goto (-23), 3) := by decide +kernel
theorem dX12_shares_30 : decode cX12_shares 30 = .ok (.iload_n 1, 1) := by decide +kernel
theorem dX12_shares_31 : decode cX12_shares 31 = .ok (.ireturn, 1) := by decide +kernel
theorem dX12_all_0 : decode cX12_all 0 = .ok (.aload_n 0, 1) := by decide +kernel
theorem dX12_all_1 : decode cX12_all 1 = .ok (.iconst 0, 1) := by decide +kernel
theorem dX12_all_2 : decode cX12_all 2 = .ok (.putfield 101, 3) := by decide +kernel
theorem dX12_all_5 : decode cX12_all 5 = .ok (.aload_n 0, 1) := by decide +kernel
theorem dX12_all_6 : decode cX12_all 6 = .ok (.getfield 234, 3) := by decide +kernel
theorem dX12_all_9 : decode cX12_all 9 = .ok (.ifCond .ne 7, 3) := by decide +kernel
theorem dX12_all_12 : decode cX12_all 12 = .ok (.ldc_w 431, 3) := by decide +kernel
theorem dX12_all_15 : decode cX12_all 15 = .ok (.ireturn, 1) := by decide +kernel
theorem dX12_all_16 : decode cX12_all 16 = .ok (.iload_n 1, 1) := by decide +kernel
theorem dX12_all_17 : decode cX12_all 17 = .ok (.tableswitch 135 0 9 #[55, 63, 71, 79, 87, 98, 109, 120, 125, 130], 55) := by decide +kernel
theorem dX12_all_72 : decode cX12_all 72 = .ok (.aload_n 0, 1) := by decide +kernel
theorem dX12_all_73 : decode cX12_all 73 = .ok (.getfield 63, 3) := by decide +kernel
theorem dX12_all_76 : decode cX12_all 76 = .ok (.bipush 41, 2) := by decide +kernel
theorem dX12_all_78 : decode cX12_all 78 = .ok (.iaload, 1) := by decide +kernel
theorem dX12_all_79 : decode cX12_all 79 = .ok (.ireturn, 1) := by decide +kernel
theorem dX12_all_80 : decode cX12_all 80 = .ok (.aload_n 0, 1) := by decide +kernel
theorem dX12_all_81 : decode cX12_all 81 = .ok (.getfield 63, 3) := by decide +kernel
theorem dX12_all_84 : decode cX12_all 84 = .ok (.bipush 42, 2) := by decide +kernel
theorem dX12_all_86 : decode cX12_all 86 = .ok (.iaload, 1) := by decide +kernel
theorem dX12_all_87 : decode cX12_all 87 = .ok (.ireturn, 1) := by decide +kernel
theorem dX12_all_88 : decode cX12_all 88 = .ok (.aload_n 0, 1) := by decide +kernel
theorem dX12_all_89 : decode cX12_all 89 = .ok (.getfield 63, 3) := by decide +kernel
theorem dX12_all_92 : decode cX12_all 92 = .ok (.bipush 43, 2) := by decide +kernel
theorem dX12_all_94 : decode cX12_all 94 = .ok (.iaload, 1) := by decide +kernel
theorem dX12_all_95 : decode cX12_all 95 = .ok (.ireturn, 1) := by decide +kernel
theorem dX12_all_96 : decode cX12_all 96 = .ok (.aload_n 0, 1) := by decide +kernel
theorem dX12_all_97 : decode cX12_all 97 = .ok (.getfield 63, 3) := by decide +kernel
theorem dX12_all_100 : decode cX12_all 100 = .ok (.invokestatic 490, 3) := by decide +kernel
theorem dX12_all_103 : decode cX12_all 103 = .ok (.ireturn, 1) := by decide +kernel
theorem dX12_all_104 : decode cX12_all 104 = .ok (.aload_n 0, 1) := by decide +kernel
theorem dX12_all_105 : decode cX12_all 105 = .ok (.bipush 9, 2) := by decide +kernel
theorem dX12_all_107 : decode cX12_all 107 = .ok (.aload_n 0, 1) := by decide +kernel
theorem dX12_all_108 : decode cX12_all 108 = .ok (.getfield 240, 3) := by decide +kernel
theorem dX12_all_111 : decode cX12_all 111 = .ok (.invokevirtual 496, 3) := by decide +kernel
theorem dX12_all_114 : decode cX12_all 114 = .ok (.ireturn, 1) := by decide +kernel
theorem dX12_all_115 : decode cX12_all 115 = .ok (.aload_n 0, 1) := by decide +kernel
theorem dX12_all_116 : decode cX12_all 116 = .ok (.bipush 37, 2) := by decide +kernel
theorem dX12_all_118 : decode cX12_all 118 = .ok (.aload_n 0, 1) := by decide +kernel
theorem dX12_all_119 : decode cX12_all 119 = .ok (.getfield 237, 3) := by decide +kernel
theorem dX12_all_122 : decode cX12_all 122 = .ok (.invokevirtual 496, 3) := by decide +kernel
theorem dX12_all_125 : decode cX12_all 125 = .ok (.ireturn, 1) := by decide +kernel
theorem dX12_all_126 : decode cX12_all 126 = .ok (.aload_n 0, 1) := by decide +kernel
theorem dX12_all_127 : decode cX12_all 127 = .ok (.bipush 25, 2) := by decide +kernel
theorem dX12_all_129 : decode cX12_all 129 = .ok (.aload_n 0, 1) := by decide +kernel
theorem dX12_all_130 : decode cX12_all 130 = .ok (.getfield 237, 3) := by decide +kernel
theorem dX12_all_133 : decode cX12_all 133 = .ok (.invokevirtual 496, 3) := by decide +kernel
theorem dX12_all_136 : decode cX12_all 136 = .ok (.ireturn, 1) := by decide +kernel
theorem dX12_all_137 : decode cX12_all 137 = .ok (.aload_n 0, 1) := by decide +kernel
theorem dX12_all_138 : decode cX12_all 138 = .ok (.invokevirtual 499, 3) := by decide +kernel
theorem dX12_all_141 : decode cX12_all 141 = .ok (.ireturn, 1) := by decide +kernel
theorem dX12_all_142 : decode cX12_all 142 = .ok (.aload_n 0, 1) := by decide +kernel
theorem dX12_all_143 : decode cX12_all 143 = .ok (.invokevirtual 502, 3) := by decide +kernel
theorem dX12_all_146 : decode cX12_all 146 = .ok (.ireturn, 1) := by decide +kernel
theorem dX12_all_147 : decode cX12_all 147 = .ok (.aload_n 0, 1) := by decide +kernel
theorem dX12_all_148 : decode cX12_all 148 = .ok (.invokevirtual 505, 3) := by decide +kernel
theorem dX12_all_151 : decode cX12_all 151 = .ok (.ireturn, 1) := by decide +kernel
theorem dX12_all_152 : decode cX12_all 152 = .ok (.ldc_w 431, 3) := by decide +kernel
theorem dX12_all_155 : decode cX12_all 155 = .ok (.ireturn, 1) := by decide +kernel
theorem dX12_count_0 : decode cX12_count 0 = .ok (.aload_n 0, 1) := by decide +kernel
theorem dX12_count_1 : decode cX12_count 1 = .ok (.iconst 0, 1) := by decide +kernel
theorem dX12_count_2 : decode cX12_count 2 = .ok (.putfield 101, 3) := by decide +kernel
theorem dX12_count_5 : decode cX12_count 5 = .ok (.iload_n 1, 1) := by decide +kernel
theorem dX12_count_6 : decode cX12_count 6 = .ok (.tableswitch 83 0 6 #[42, 47, 52, 57, 65, 70, 75], 42) := by decide +kernel
theorem dX12_count_48 : decode cX12_count 48 = .ok (.aload_n 0, 1) := by decide +kernel
theorem dX12_count_49 : decode cX12_count 49 = .ok (.getfield 234, 3) := by decide +kernel
theorem dX12_count_52 : decode cX12_count 52 = .ok (.ireturn, 1) := by decide +kernel
theorem dX12_count_53 : decode cX12_count 53 = .ok (.aload_n 0, 1) := by decide +kernel
theorem dX12_count_54 : decode cX12_count 54 = .ok (.getfield 252, 3) := by decide +kernel
theorem dX12_count_57 : decode cX12_count 57 = .ok (.ireturn, 1) := by decide +kernel
theorem dX12_count_58 : decode cX12_count 58 = .ok (.aload_n 0, 1) := by decide +kernel
theorem dX12_count_59 : decode cX12_count 59 = .ok (.getfield 104, 3) := by decide +kernel
theorem dX12_count_62 : decode cX12_count 62 = .ok (.ireturn, 1) := by decide +kernel
theorem dX12_count_63 : decode cX12_count 63 = .ok (.aload_n 0, 1) := by decide +kernel
theorem dX12_count_64 : decode cX12_count 64 = .ok (.getfield 63, 3) := by decide +kernel
theorem dX12_count_67 : decode cX12_count 67 = .ok (.bipush 75, 2) := by decide +kernel
theorem dX12_count_69 : decode cX12_count 69 = .ok (.iaload, 1) := by decide +kernel
theorem dX12_count_70 : decode cX12_count 70 = .ok (.ireturn, 1) := by decide +kernel
theorem dX12_count_71 : decode cX12_count 71 = .ok (.aload_n 0, 1) := by decide +kernel
theorem dX12_count_72 : decode cX12_count 72 = .ok (.getfield 260, 3) := by decide +kernel
theorem dX12_count_75 : decode cX12_count 75 = .ok (.ireturn, 1) := by decide +kernel
theorem dX12_count_76 : decode cX12_count 76 = .ok (.aload_n 0, 1) := by decide +kernel
theorem dX12_count_77 : decode cX12_count 77 = .ok (.getfield 237, 3) := by decide +kernel
theorem dX12_count_80 : decode cX12_count 80 = .ok (.ireturn, 1) := by decide +kernel
theorem dX12_count_81 : decode cX12_count 81 = .ok (.aload_n 0, 1) := by decide +kernel
theorem dX12_count_82 : decode cX12_count 82 = .ok (.getfield 63, 3) := by decide +kernel
theorem dX12_count_85 : decode cX12_count 85 = .ok (.bipush 44, 2) := by decide +kernel
theorem dX12_count_87 : decode cX12_count 87 = .ok (.iaload, 1) := by decide +kernel
theorem dX12_count_88 : decode cX12_count 88 = .ok (.ireturn, 1) := by decide +kernel
theorem dX12_count_89 : decode cX12_count 89 = .ok (.ldc_w 431, 3) := by decide +kernel
theorem dX12_count_92 : decode cX12_count 92 = .ok (.ireturn, 1) := by decide +kernel
