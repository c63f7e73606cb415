theorem dX12_init_0 : decode cX12_init 0 = .ok (.aload_n 0, 1) := by decide +kernel
theorem dX12_init_1 : decode cX12_init 1 = .ok (.invokespecial 3, 3) := by decide +kernel
theorem dX12_init_4 : decode cX12_init 4 = .ok (.aload_n 0, 1) := by decide +kernel
theorem dX12_init_5 : decode cX12_init 5 = .ok (.sipush 320, 3) := by decide +kernel
theorem dX12_init_8 : decode cX12_init 8 = .ok (.newarray .byte, 2) := by decide +kernel
theorem dX12_init_10 : decode cX12_init 10 = .ok (.putfield 9, 3) := by decide +kernel
theorem dX12_init_13 : decode cX12_init 13 = .ok (.aload_n 0, 1) := by decide +kernel
theorem dX12_init_14 : decode cX12_init 14 = .ok (.bipush 6, 2) := by decide +kernel
theorem dX12_init_16 : decode cX12_init 16 = .ok (.newarray .int, 2) := by decide +kernel
theorem dX12_init_18 : decode cX12_init 18 = .ok (.putfield 13, 3) := by decide +kernel
theorem dX12_init_21 : decode cX12_init 21 = .ok (.aload_n 0, 1) := by decide +kernel
theorem dX12_init_22 : decode cX12_init 22 = .ok (.bipush 6, 2) := by decide +kernel
theorem dX12_init_24 : decode cX12_init 24 = .ok (.newarray .int, 2) := by decide +kernel
theorem dX12_init_26 : decode cX12_init 26 = .ok (.putfield 17, 3) := by decide +kernel
theorem dX12_init_29 : decode cX12_init 29 = .ok (.aload_n 0, 1) := by decide +kernel
theorem dX12_init_30 : decode cX12_init 30 = .ok (.bipush 12, 2) := by decide +kernel
theorem dX12_init_32 : decode cX12_init 32 = .ok (.newarray .int, 2) := by decide +kernel
theorem dX12_init_34 : decode cX12_init 34 = .ok (.putfield 20, 3) := by decide +kernel
theorem dX12_init_37 : decode cX12_init 37 = .ok (.aload_n 0, 1) := by decide +kernel
theorem dX12_init_38 : decode cX12_init 38 = .ok (.bipush 12, 2) := by decide +kernel
theorem dX12_init_40 : decode cX12_init 40 = .ok (.newarray .int, 2) := by decide +kernel
theorem dX12_init_42 : decode cX12_init 42 = .ok (.putfield 23, 3) := by decide +kernel
theorem dX12_init_45 : decode cX12_init 45 = .ok (.aload_n 0, 1) := by decide +kernel
theorem dX12_init_46 : decode cX12_init 46 = .ok (.bipush 30, 2) := by decide +kernel
theorem dX12_init_48 : decode cX12_init 48 = .ok (.newarray .int, 2) := by decide +kernel
theorem dX12_init_50 : decode cX12_init 50 = .ok (.putfield 26, 3) := by decide +kernel
theorem dX12_init_53 : decode cX12_init 53 = .ok (.aload_n 0, 1) := by decide +kernel
theorem dX12_init_54 : decode cX12_init 54 = .ok (.bipush 30, 2) := by decide +kernel
theorem dX12_init_56 : decode cX12_init 56 = .ok (.newarray .int, 2) := by decide +kernel
theorem dX12_init_58 : decode cX12_init 58 = .ok (.putfield 29, 3) := by decide +kernel
theorem dX12_init_61 : decode cX12_init 61 = .ok (.aload_n 0, 1) := by decide +kernel
theorem dX12_init_62 : decode cX12_init 62 = .ok (.bipush 8, 2) := by decide +kernel
theorem dX12_init_64 : decode cX12_init 64 = .ok (.newarray .int, 2) := by decide +kernel
theorem dX12_init_66 : decode cX12_init 66 = .ok (.putfield 32, 3) := by decide +kernel
theorem dX12_init_69 : decode cX12_init 69 = .ok (.aload_n 0, 1) := by decide +kernel
theorem dX12_init_70 : decode cX12_init 70 = .ok (.bipush 8, 2) := by decide +kernel
theorem dX12_init_72 : decode cX12_init 72 = .ok (.newarray .int, 2) := by decide +kernel
theorem dX12_init_74 : decode cX12_init 74 = .ok (.putfield 35, 3) := by decide +kernel
theorem dX12_init_77 : decode cX12_init 77 = .ok (.aload_n 0, 1) := by decide +kernel
theorem dX12_init_78 : decode cX12_init 78 = .ok (.iconst 4, 1) := by decide +kernel
theorem dX12_init_79 : decode cX12_init 79 = .ok (.newarray .int, 2) := by decide +kernel
theorem dX12_init_81 : decode cX12_init 81 = .ok (.putfield 38, 3) := by decide +kernel
theorem dX12_init_84 : decode cX12_init 84 = .ok (.aload_n 0, 1) := by decide +kernel
theorem dX12_init_85 : decode cX12_init 85 = .ok (.iconst 3, 1) := by decide +kernel
theorem dX12_init_86 : decode cX12_init 86 = .ok (.newarray .long, 2) := by decide +kernel
theorem dX12_init_88 : decode cX12_init 88 = .ok (.putfield 41, 3) := by decide +kernel
theorem dX12_init_91 : decode cX12_init 91 = .ok (.aload_n 0, 1) := by decide +kernel
theorem dX12_init_92 : decode cX12_init 92 = .ok (.iconst 3, 1) := by decide +kernel
theorem dX12_init_93 : decode cX12_init 93 = .ok (.newarray .long, 2) := by decide +kernel
theorem dX12_init_95 : decode cX12_init 95 = .ok (.putfield 45, 3) := by decide +kernel
theorem dX12_init_98 : decode cX12_init 98 = .ok (.aload_n 0, 1) := by decide +kernel
theorem dX12_init_99 : decode cX12_init 99 = .ok (.iconst 4, 1) := by decide +kernel
theorem dX12_init_100 : decode cX12_init 100 = .ok (.newarray .long, 2) := by decide +kernel
theorem dX12_init_102 : decode cX12_init 102 = .ok (.putfield 48, 3) := by decide +kernel
theorem dX12_init_105 : decode cX12_init 105 = .ok (.aload_n 0, 1) := by decide +kernel
theorem dX12_init_106 : decode cX12_init 106 = .ok (.iconst 4, 1) := by decide +kernel
theorem dX12_init_107 : decode cX12_init 107 = .ok (.newarray .long, 2) := by decide +kernel
theorem dX12_init_109 : decode cX12_init 109 = .ok (.putfield 51, 3) := by decide +kernel
theorem dX12_init_112 : decode cX12_init 112 = .ok (.aload_n 0, 1) := by decide +kernel
theorem dX12_init_113 : decode cX12_init 113 = .ok (.sipush 240, 3) := by decide +kernel
theorem dX12_init_116 : decode cX12_init 116 = .ok (.newarray .int, 2) := by decide +kernel
theorem dX12_init_118 : decode cX12_init 118 = .ok (.putfield 54, 3) := by decide +kernel
theorem dX12_init_121 : decode cX12_init 121 = .ok (.aload_n 0, 1) := by decide +kernel
theorem dX12_init_122 : decode cX12_init 122 = .ok (.iconst 5, 1) := by decide +kernel
theorem dX12_init_123 : decode cX12_init 123 = .ok (.newarray .int, 2) := by decide +kernel
theorem dX12_init_125 : decode cX12_init 125 = .ok (.putfield 57, 3) := by decide +kernel
theorem dX12_init_128 : decode cX12_init 128 = .ok (.aload_n 0, 1) := by decide +kernel
theorem dX12_init_129 : decode cX12_init 129 = .ok (.bipush 60, 2) := by decide +kernel
theorem dX12_init_131 : decode cX12_init 131 = .ok (.newarray .long, 2) := by decide +kernel
theorem dX12_init_133 : decode cX12_init 133 = .ok (.putfield 60, 3) := by decide +kernel
theorem dX12_init_136 : decode cX12_init 136 = .ok (.aload_n 0, 1) := by decide +kernel
theorem dX12_init_137 : decode cX12_init 137 = .ok (.sipush 256, 3) := by decide +kernel
theorem dX12_init_140 : decode cX12_init 140 = .ok (.newarray .int, 2) := by decide +kernel
theorem dX12_init_142 : decode cX12_init 142 = .ok (.putfield 63, 3) := by decide +kernel
theorem dX12_init_145 : decode cX12_init 145 = .ok (.aload_n 0, 1) := by decide +kernel
theorem dX12_init_146 : decode cX12_init 146 = .ok (.sipush 256, 3) := by decide +kernel
theorem dX12_init_149 : decode cX12_init 149 = .ok (.newarray .int, 2) := by decide +kernel
theorem dX12_init_151 : decode cX12_init 151 = .ok (.putfield 66, 3) := by decide +kernel
theorem dX12_init_154 : decode cX12_init 154 = .ok (.aload_n 0, 1) := by decide +kernel
theorem dX12_init_155 : decode cX12_init 155 = .ok (.sipush 256, 3) := by decide +kernel
theorem dX12_init_158 : decode cX12_init 158 = .ok (.newarray .int, 2) := by decide +kernel
theorem dX12_init_160 : decode cX12_init 160 = .ok (.putfield 69, 3) := by decide +kernel
theorem dX12_init_163 : decode cX12_init 163 = .ok (.aload_n 0, 1) := by decide +kernel
theorem dX12_init_164 : decode cX12_init 164 = .ok (.sipush 10240, 3) := by decide +kernel
theorem dX12_init_167 : decode cX12_init 167 = .ok (.newarray .int, 2) := by decide +kernel
theorem dX12_init_169 : decode cX12_init 169 = .ok (.putfield 72, 3) := by decide +kernel
theorem dX12_init_172 : decode cX12_init 172 = .ok (.aload_n 0, 1) := by decide +kernel
theorem dX12_init_173 : decode cX12_init 173 = .ok (.iconst (-1), 1) := by decide +kernel
theorem dX12_init_174 : decode cX12_init 174 = .ok (.putfield 75, 3) := by decide +kernel
theorem dX12_init_177 : decode cX12_init 177 = .ok (.aload_n 0, 1) := by decide +kernel
theorem dX12_init_178 : decode cX12_init 178 = .ok (.iconst 4, 1) := by decide +kernel
theorem dX12_init_179 : decode cX12_init 179 = .ok (.newarray .int, 2) := by decide +kernel
theorem dX12_init_181 : decode cX12_init 181 = .ok (.putfield 79, 3) := by decide +kernel
theorem dX12_init_184 : decode cX12_init 184 = .ok (.aload_n 0, 1) := by decide +kernel
theorem dX12_init_185 : decode cX12_init 185 = .ok (.iconst 4, 1) := by decide +kernel
theorem dX12_init_186 : decode cX12_init 186 = .ok (.newarray .int, 2) := by decide +kernel
theorem dX12_init_188 : decode cX12_init 188 = .ok (.putfield 82, 3) := by decide +kernel
theorem dX12_init_191 : decode cX12_init 191 = .ok (.aload_n 0, 1) := by decide +kernel
theorem dX12_init_192 : decode cX12_init 192 = .ok (.iconst 4, 1) := by decide +kernel
theorem dX12_init_193 : decode cX12_init 193 = .ok (.newarray .boolean, 2) := by decide +kernel
theorem dX12_init_195 : decode cX12_init 195 = .ok (.putfield 85, 3) := by decide +kernel
theorem dX12_init_198 : decode cX12_init 198 = .ok (.aload_n 0, 1) := by decide +kernel
theorem dX12_init_199 : decode cX12_init 199 = .ok (.iconst 4, 1) := by decide +kernel
theorem dX12_init_200 : decode cX12_init 200 = .ok (.newarray .int, 2) := by decide +kernel
theorem dX12_init_202 : decode cX12_init 202 = .ok (.putfield 89, 3) := by decide +kernel
theorem dX12_init_205 : decode cX12_init 205 = .ok (.aload_n 0, 1) := by decide +kernel
theorem dX12_init_206 : decode cX12_init 206 = .ok (.sipush 1296, 3) := by decide +kernel
theorem dX12_init_209 : decode cX12_init 209 = .ok (.newarray .int, 2) := by decide +kernel
theorem dX12_init_211 : decode cX12_init 211 = .ok (.putfield 92, 3) := by decide +kernel
theorem dX12_init_214 : decode cX12_init 214 = .ok (.aload_n 0, 1) := by decide +kernel
theorem dX12_init_215 : decode cX12_init 215 = .ok (.sipush 1296, 3) := by decide +kernel
theorem dX12_init_218 : decode cX12_init 218 = .ok (.newarray .int, 2) := by decide +kernel
theorem dX12_init_220 : decode cX12_init 220 = .ok (.putfield 95, 3) := by decide +kernel
theorem dX12_init_223 : decode cX12_init 223 = .ok (.aload_n 0, 1) := by decide +kernel
theorem dX12_init_224 : decode cX12_init 224 = .ok (.sipush 1296, 3) := by decide +kernel
theorem dX12_init_227 : decode cX12_init 227 = .ok (.newarray .int, 2) := by decide +kernel
theorem dX12_init_229 : decode cX12_init 229 = .ok (.putfield 98, 3) := by decide +kernel
theorem dX12_init_232 : decode cX12_init 232 = .ok (.return_, 1) := by decide +kernel
theorem dX12_thrown_0 : decode cX12_thrown 0 = .ok (.aload_n 0, 1) := by decide +kernel
theorem dX12_thrown_1 : decode cX12_thrown 1 = .ok (.getfield 101, 3) := by decide +kernel
theorem dX12_thrown_4 : decode cX12_thrown 4 = .ok (.ireturn, 1) := by decide +kernel
theorem dX12_isIn_0 : decode cX12_isIn 0 = .ok (.lload_n 0, 1) := by decide +kernel
theorem dX12_isIn_1 : decode cX12_isIn 1 = .ok (.lload_n 2, 1) := by decide +kernel
theorem dX12_isIn_2 : decode cX12_isIn 2 = .ok (.lcmp, 1) := by decide +kernel
theorem dX12_isIn_3 : decode cX12_isIn 3 = .ok (.ifCond .lt 14, 3) := by decide +kernel
theorem dX12_isIn_6 : decode cX12_isIn 6 = .ok (.lload_n 0, 1) := by decide +kernel
theorem dX12_isIn_7 : decode cX12_isIn 7 = .ok (.lload 4, 2) := by decide +kernel
theorem dX12_isIn_9 : decode cX12_isIn 9 = .ok (.lcmp, 1) := by decide +kernel
theorem dX12_isIn_10 : decode cX12_isIn 10 = .ok (.ifCond .gt 7, 3) := by decide +kernel
theorem dX12_isIn_13 : decode cX12_isIn 13 = .ok (.iconst 1, 1) := by decide +kernel
theorem dX12_isIn_14 : decode cX12_isIn 14 = .ok (.goto 4, 3) := by decide +kernel
theorem dX12_isIn_17 : decode cX12_isIn 17 = .ok (.iconst 0, 1) := by decide +kernel
theorem dX12_isIn_18 : decode cX12_isIn 18 = .ok (.ireturn, 1) := by decide +kernel
theorem dX12_has_0 : decode cX12_has 0 = .ok (.iload_n 0, 1) := by decide +kernel
theorem dX12_has_1 : decode cX12_has 1 = .ok (.iload_n 1, 1) := by decide +kernel
theorem dX12_has_2 : decode cX12_has 2 = .ok (.ishr, 1) := by decide +kernel
theorem dX12_has_3 : decode cX12_has 3 = .ok (.iconst 1, 1) := by decide +kernel
theorem dX12_has_4 : decode cX12_has 4 = .ok (.iand, 1) := by decide +kernel
theorem dX12_has_5 : decode cX12_has 5 = .ok (.iconst 1, 1) := by decide +kernel
theorem dX12_has_6 : decode cX12_has 6 = .ok (.if_icmp .ne 7, 3) := by decide +kernel
theorem dX12_has_9 : decode cX12_has 9 = .ok (.iconst 1, 1) := by decide +kernel
theorem dX12_has_10 : decode cX12_has 10 = .ok (.goto 4, 3) := by decide +kernel
theorem dX12_has_13 : decode cX12_has 13 = .ok (.iconst 0, 1) := by decide +kernel
theorem dX12_has_14 : decode cX12_has 14 = .ok (.ireturn, 1) := by decide +kernel
theorem dX12_bytesOf_0 : decode cX12_bytesOf 0 = .ok (.iconst 0, 1) := by decide +kernel
theorem dX12_bytesOf_1 : decode cX12_bytesOf 1 = .ok (.istore_n 1, 1) := by decide +kernel
theorem dX12_bytesOf_2 : decode cX12_bytesOf 2 = .ok (.iconst 0, 1) := by decide +kernel
theorem dX12_bytesOf_3 : decode cX12_bytesOf 3 = .ok (.istore_n 2, 1) := by decide +kernel
theorem dX12_bytesOf_4 : decode cX12_bytesOf 4 = .ok (.iload_n 2, 1) := by decide +kernel
theorem dX12_bytesOf_5 : decode cX12_bytesOf 5 = .ok (.iconst 4, 1) := by decide +kernel
theorem dX12_bytesOf_6 : decode cX12_bytesOf 6 = .ok (.if_icmp .ge 30, 3) := by decide +kernel
theorem dX12_bytesOf_9 : decode cX12_bytesOf 9 = .ok (.iload_n 1, 1) := by decide +kernel
theorem dX12_bytesOf_10 : decode cX12_bytesOf 10 = .ok (.iload_n 0, 1) := by decide +kernel
theorem dX12_bytesOf_11 : decode cX12_bytesOf 11 = .ok (.bipush 8, 2) := by decide +kernel
theorem dX12_bytesOf_13 : decode cX12_bytesOf 13 = .ok (.iload_n 2, 1) := by decide +kernel
theorem dX12_bytesOf_14 : decode cX12_bytesOf 14 = .ok (.imul, 1) := by decide +kernel
theorem dX12_bytesOf_15 : decode cX12_bytesOf 15 = .ok (.ishr, 1) := by decide +kernel
theorem dX12_bytesOf_16 : decode cX12_bytesOf 16 = .ok (.sipush 255, 3) := by decide +kernel
theorem dX12_bytesOf_19 : decode cX12_bytesOf 19 = .ok (.iand, 1) := by decide +kernel
theorem dX12_bytesOf_20 : decode cX12_bytesOf 20 = .ok (.ifCond .ne 7, 3) := by decide +kernel
theorem dX12_bytesOf_23 : decode cX12_bytesOf 23 = .ok (.iconst 0, 1) := by decide +kernel
theorem dX12_bytesOf_24 : decode cX12_bytesOf 24 = .ok (.goto 4, 3) := by decide +kernel
theorem dX12_bytesOf_27 : decode cX12_bytesOf 27 = .ok (.iconst 1, 1) := by decide +kernel
theorem dX12_bytesOf_28 : decode cX12_bytesOf 28 = .ok (.iadd, 1) := by decide +kernel
theorem dX12_bytesOf_29 : decode cX12_bytesOf 29 = .ok (.istore_n 1, 1) := by decide +kernel
theorem dX12_bytesOf_30 : decode cX12_bytesOf 30 = .ok (.iinc 2 1, 3) := by decide +kernel
theorem dX12_bytesOf_33 : decode cX12_bytesOf 33 = .ok (.goto (-29), 3) := by decide +kernel
theorem dX12_bytesOf_36 : decode cX12_bytesOf 36 = .ok (.iload_n 1, 1) := by decide +kernel
theorem dX12_bytesOf_37 : decode cX12_bytesOf 37 = .ok (.ireturn, 1) := by decide +kernel
theorem dX12_brings_0 : decode cX12_brings 0 = .ok (.bipush 24, 2) := by decide +kernel
theorem dX12_brings_2 : decode cX12_brings 2 = .ok (.istore_n 2, 1) := by decide +kernel
theorem dX12_brings_3 : decode cX12_brings 3 = .ok (.iload_n 2, 1) := by decide +kernel
theorem dX12_brings_4 : decode cX12_brings 4 = .ok (.ifCond .lt 45, 3) := by decide +kernel
theorem dX12_brings_7 : decode cX12_brings 7 = .ok (.iload_n 1, 1) := by decide +kernel
theorem dX12_brings_8 : decode cX12_brings 8 = .ok (.iload_n 2, 1) := by decide +kernel
theorem dX12_brings_9 : decode cX12_brings 9 = .ok (.ishr, 1) := by decide +kernel
theorem dX12_brings_10 : decode cX12_brings 10 = .ok (.sipush 255, 3) := by decide +kernel
theorem dX12_brings_13 : decode cX12_brings 13 = .ok (.iand, 1) := by decide +kernel
theorem dX12_brings_14 : decode cX12_brings 14 = .ok (.istore_n 3, 1) := by decide +kernel
theorem dX12_brings_15 : decode cX12_brings 15 = .ok (.iload_n 3, 1) := by decide +kernel
theorem dX12_brings_16 : decode cX12_brings 16 = .ok (.ifCond .ne 6, 3) := by decide +kernel
theorem dX12_brings_19 : decode cX12_brings 19 = .ok (.goto 24, 3) := by decide +kernel
theorem dX12_brings_22 : decode cX12_brings 22 = .ok (.aload_n 0, 1) := by decide +kernel
theorem dX12_brings_23 : decode cX12_brings 23 = .ok (.getfield 9, 3) := by decide +kernel
theorem dX12_brings_26 : decode cX12_brings 26 = .ok (.aload_n 0, 1) := by decide +kernel
theorem dX12_brings_27 : decode cX12_brings 27 = .ok (.getfield 104, 3) := by decide +kernel
theorem dX12_brings_30 : decode cX12_brings 30 = .ok (.iload_n 3, 1) := by decide +kernel
theorem dX12_brings_31 : decode cX12_brings 31 = .ok (.i2b, 1) := by decide +kernel
theorem dX12_brings_32 : decode cX12_brings 32 = .ok (.bastore, 1) := by decide +kernel
theorem dX12_brings_33 : decode cX12_brings 33 = .ok (.aload_n 0, 1) := by decide +kernel
theorem dX12_brings_34 : decode cX12_brings 34 = .ok (.dup, 1) := by decide +kernel
theorem dX12_brings_35 : decode cX12_brings 35 = .ok (.getfield 104, 3) := by decide +kernel
theorem dX12_brings_38 : decode cX12_brings 38 = .ok (.iconst 1, 1) := by decide +kernel
theorem dX12_brings_39 : decode cX12_brings 39 = .ok (.iadd, 1) := by decide +kernel
theorem dX12_brings_40 : decode cX12_brings 40 = .ok (.putfield 104, 3) := by decide +kernel
theorem dX12_brings_43 : decode cX12_brings 43 = .ok (.iinc 2 (-8), 3) := by decide +kernel
theorem dX12_brings_46 : decode cX12_brings 46 = .ok (.goto (-43), 3) := by decide +kernel
theorem dX12_brings_49 : decode cX12_brings 49 = .ok (.return_, 1) := by decide +kernel
theorem dX12_feed_0 : decode cX12_feed 0 = .ok (.aload_n 0, 1) := by decide +kernel
theorem dX12_feed_1 : decode cX12_feed 1 = .ok (.iconst 0, 1) := by decide +kernel
theorem dX12_feed_2 : decode cX12_feed 2 = .ok (.putfield 101, 3) := by decide +kernel
theorem dX12_feed_5 : decode cX12_feed 5 = .ok (.aload_n 0, 1) := by decide +kernel
theorem dX12_feed_6 : decode cX12_feed 6 = .ok (.getfield 104, 3) := by decide +kernel
theorem dX12_feed_9 : decode cX12_feed 9 = .ok (.iload_n 1, 1) := by decide +kernel
theorem dX12_feed_10 : decode cX12_feed 10 = .ok (.invokestatic 107, 3) := by decide +kernel
theorem dX12_feed_13 : decode cX12_feed 13 = .ok (.iadd, 1) := by decide +kernel
theorem dX12_feed_14 : decode cX12_feed 14 = .ok (.iload_n 2, 1) := by decide +kernel
theorem dX12_feed_15 : decode cX12_feed 15 = .ok (.invokestatic 107, 3) := by decide +kernel
theorem dX12_feed_18 : decode cX12_feed 18 = .ok (.iadd, 1) := by decide +kernel
theorem dX12_feed_19 : decode cX12_feed 19 = .ok (.iload_n 3, 1) := by decide +kernel
theorem dX12_feed_20 : decode cX12_feed 20 = .ok (.invokestatic 107, 3) := by decide +kernel
theorem dX12_feed_23 : decode cX12_feed 23 = .ok (.iadd, 1) := by decide +kernel
theorem dX12_feed_24 : decode cX12_feed 24 = .ok (.iload 4, 2) := by decide +kernel
theorem dX12_feed_26 : decode cX12_feed 26 = .ok (.invokestatic 107, 3) := by decide +kernel
theorem dX12_feed_29 : decode cX12_feed 29 = .ok (.iadd, 1) := by decide +kernel
theorem dX12_feed_30 : decode cX12_feed 30 = .ok (.iload 5, 2) := by decide +kernel
theorem dX12_feed_32 : decode cX12_feed 32 = .ok (.invokestatic 107, 3) := by decide +kernel
theorem dX12_feed_35 : decode cX12_feed 35 = .ok (.iadd, 1) := by decide +kernel
theorem dX12_feed_36 : decode cX12_feed 36 = .ok (.sipush 320, 3) := by decide +kernel
theorem dX12_feed_39 : decode cX12_feed 39 = .ok (.if_icmp .le 5, 3) := by decide +kernel
theorem dX12_feed_42 : decode cX12_feed 42 = .ok (.iconst (-1), 1) := by decide +kernel
theorem dX12_feed_43 : decode cX12_feed 43 = .ok (.ireturn, 1) := by decide +kernel
theorem dX12_feed_44 : decode cX12_feed 44 = .ok (.aload_n 0, 1) := by decide +kernel
theorem dX12_feed_45 : decode cX12_feed 45 = .ok (.iload_n 1, 1) := by decide +kernel
theorem dX12_feed_46 : decode cX12_feed 46 = .ok (.invokevirtual 111, 3) := by decide +kernel
theorem dX12_feed_49 : decode cX12_feed 49 = .ok (.aload_n 0, 1) := by decide +kernel
theorem dX12_feed_50 : decode cX12_feed 50 = .ok (.iload_n 2, 1) := by decide +kernel
theorem dX12_feed_51 : decode cX12_feed 51 = .ok (.invokevirtual 111, 3) := by decide +kernel
theorem dX12_feed_54 : decode cX12_feed 54 = .ok (.aload_n 0, 1) := by decide +kernel
theorem dX12_feed_55 : decode cX12_feed 55 = .ok (.iload_n 3, 1) := by decide +kernel
theorem dX12_feed_56 : decode cX12_feed 56 = .ok (.invokevirtual 111, 3) := by decide +kernel
theorem dX12_feed_59 : decode cX12_feed 59 = .ok (.aload_n 0, 1) := by decide +kernel
theorem dX12_feed_60 : decode cX12_feed 60 = .ok (.iload 4, 2) := by decide +kernel
theorem dX12_feed_62 : decode cX12_feed 62 = .ok (.invokevirtual 111, 3) := by decide +kernel
theorem dX12_feed_65 : decode cX12_feed 65 = .ok (.aload_n 0, 1) := by decide +kernel
theorem dX12_feed_66 : decode cX12_feed 66 = .ok (.iload 5, 2) := by decide +kernel
theorem dX12_feed_68 : decode cX12_feed 68 = .ok (.invokevirtual 111, 3) := by decide +kernel
theorem dX12_feed_71 : decode cX12_feed 71 = .ok (.aload_n 0, 1) := by decide +kernel
theorem dX12_feed_72 : decode cX12_feed 72 = .ok (.getfield 104, 3) := by decide +kernel
theorem dX12_feed_75 : decode cX12_feed 75 = .ok (.ireturn, 1) := by decide +kernel
theorem dX12_end_0 : decode cX12_end 0 = .ok (.aload_n 0, 1) := by decide +kernel
theorem dX12_end_1 : decode cX12_end 1 = .ok (.iconst 0, 1) := by decide +kernel
theorem dX12_end_2 : decode cX12_end 2 = .ok (.putfield 101, 3) := by decide +kernel
theorem dX12_end_5 : decode cX12_end 5 = .ok (.iload_n 1, 1) := by decide +kernel
theorem dX12_end_6 : decode cX12_end 6 = .ok (.ifCond .lt 11, 3) := by decide +kernel
theorem dX12_end_9 : decode cX12_end 9 = .ok (.iload_n 1, 1) := by decide +kernel
theorem dX12_end_10 : decode cX12_end 10 = .ok (.aload_n 0, 1) := by decide +kernel
theorem dX12_end_11 : decode cX12_end 11 = .ok (.getfield 104, 3) := by decide +kernel
theorem dX12_end_14 : decode cX12_end 14 = .ok (.if_icmp .le 5, 3) := by decide +kernel
theorem dX12_end_17 : decode cX12_end 17 = .ok (.iconst 0, 1) := by decide +kernel
theorem dX12_end_18 : decode cX12_end 18 = .ok (.ireturn, 1) := by decide +kernel
theorem dX12_end_19 : decode cX12_end 19 = .ok (.aload_n 0, 1) := by decide +kernel
theorem dX12_end_20 : decode cX12_end 20 = .ok (.iload_n 1, 1) := by decide +kernel
theorem dX12_end_21 : decode cX12_end 21 = .ok (.putfield 104, 3) := by decide +kernel
theorem dX12_end_24 : decode cX12_end 24 = .ok (.iconst 1, 1) := by decide +kernel
theorem dX12_end_25 : decode cX12_end 25 = .ok (.ireturn, 1) := by decide +kernel
theorem dX12_here_0 : decode cX12_here 0 = .ok (.aload_n 0, 1) := by decide +kernel
theorem dX12_here_1 : decode cX12_here 1 = .ok (.getfield 115, 3) := by decide +kernel
theorem dX12_here_4 : decode cX12_here 4 = .ok (.aload_n 0, 1) := by decide +kernel
theorem dX12_here_5 : decode cX12_here 5 = .ok (.getfield 104, 3) := by decide +kernel
theorem dX12_here_8 : decode cX12_here 8 = .ok (.if_icmp .ge 19, 3) := by decide +kernel
theorem dX12_here_11 : decode cX12_here 11 = .ok (.aload_n 0, 1) := by decide +kernel
theorem dX12_here_12 : decode cX12_here 12 = .ok (.getfield 9, 3) := by decide +kernel
theorem dX12_here_15 : decode cX12_here 15 = .ok (.aload_n 0, 1) := by decide +kernel
theorem dX12_here_16 : decode cX12_here 16 = .ok (.getfield 115, 3) := by decide +kernel
theorem dX12_here_19 : decode cX12_here 19 = .ok (.baload, 1) := by decide +kernel
theorem dX12_here_20 : decode cX12_here 20 = .ok (.sipush 255, 3) := by decide +kernel
theorem dX12_here_23 : decode cX12_here 23 = .ok (.iand, 1) := by decide +kernel
theorem dX12_here_24 : decode cX12_here 24 = .ok (.goto 4, 3) := by decide +kernel
theorem dX12_here_27 : decode cX12_here 27 = .ok (.iconst (-1), 1) := by decide +kernel
theorem dX12_here_28 : decode cX12_here 28 = .ok (.ireturn, 1) := by decide +kernel
theorem dX12_look_0 : decode cX12_look 0 = .ok (.aload_n 0, 1) := by decide +kernel
theorem dX12_look_1 : decode cX12_look 1 = .ok (.invokevirtual 118, 3) := by decide +kernel
theorem dX12_look_4 : decode cX12_look 4 = .ok (.bipush 32, 2) := by decide +kernel
theorem dX12_look_6 : decode cX12_look 6 = .ok (.if_icmp .ne 16, 3) := by decide +kernel
theorem dX12_look_9 : decode cX12_look 9 = .ok (.aload_n 0, 1) := by decide +kernel
theorem dX12_look_10 : decode cX12_look 10 = .ok (.dup, 1) := by decide +kernel
theorem dX12_look_11 : decode cX12_look 11 = .ok (.getfield 115, 3) := by decide +kernel
theorem dX12_look_14 : decode cX12_look 14 = .ok (.iconst 1, 1) := by decide +kernel
theorem dX12_look_15 : decode cX12_look 15 = .ok (.iadd, 1) := by decide +kernel
theorem dX12_look_16 : decode cX12_look 16 = .ok (.putfield 115, 3) := by decide +kernel
theorem dX12_look_19 : decode cX12_look 19 = .ok (.goto (-19), 3) := by decide +kernel
theorem dX12_look_22 : decode cX12_look 22 = .ok (.aload_n 0, 1) := by decide +kernel
theorem dX12_look_23 : decode cX12_look 23 = .ok (.invokevirtual 118, 3) := by decide +kernel
theorem dX12_look_26 : decode cX12_look 26 = .ok (.ireturn, 1) := by decide +kernel
theorem dX12_fails_0 : decode cX12_fails 0 = .ok (.aload_n 0, 1) := by decide +kernel
theorem dX12_fails_1 : decode cX12_fails 1 = .ok (.getfield 122, 3) := by decide +kernel
theorem dX12_fails_4 : decode cX12_fails 4 = .ok (.iconst (-1), 1) := by decide +kernel
theorem dX12_fails_5 : decode cX12_fails 5 = .ok (.if_icmp .ne 8, 3) := by decide +kernel
theorem dX12_fails_8 : decode cX12_fails 8 = .ok (.aload_n 0, 1) := by decide +kernel
theorem dX12_fails_9 : decode cX12_fails 9 = .ok (.iload_n 1, 1) := by decide +kernel
theorem dX12_fails_10 : decode cX12_fails 10 = .ok (.putfield 122, 3) := by decide +kernel
theorem dX12_fails_13 : decode cX12_fails 13 = .ok (.return_, 1) := by decide +kernel
theorem dX12_isLetter_0 : decode cX12_isLetter 0 = .ok (.aload_n 0, 1) := by decide +kernel
theorem dX12_isLetter_1 : decode cX12_isLetter 1 = .ok (.invokevirtual 118, 3) := by decide +kernel
theorem dX12_isLetter_4 : decode cX12_isLetter 4 = .ok (.bipush 97, 2) := by decide +kernel
theorem dX12_isLetter_6 : decode cX12_isLetter 6 = .ok (.if_icmp .lt 16, 3) := by decide +kernel
theorem dX12_isLetter_9 : decode cX12_isLetter 9 = .ok (.aload_n 0, 1) := by decide +kernel
theorem dX12_isLetter_10 : decode cX12_isLetter 10 = .ok (.invokevirtual 118, 3) := by decide +kernel
theorem dX12_isLetter_13 : decode cX12_isLetter 13 = .ok (.bipush 122, 2) := by decide +kernel
theorem dX12_isLetter_15 : decode cX12_isLetter 15 = .ok (.if_icmp .gt 7, 3) := by decide +kernel
theorem dX12_isLetter_18 : decode cX12_isLetter 18 = .ok (.iconst 1, 1) := by decide +kernel
theorem dX12_isLetter_19 : decode cX12_isLetter 19 = .ok (.goto 4, 3) := by decide +kernel
theorem dX12_isLetter_22 : decode cX12_isLetter 22 = .ok (.iconst 0, 1) := by decide +kernel
theorem dX12_isLetter_23 : decode cX12_isLetter 23 = .ok (.ireturn, 1) := by decide +kernel
theorem dX12_isDigit_0 : decode cX12_isDigit 0 = .ok (.aload_n 0, 1) := by decide +kernel
theorem dX12_isDigit_1 : decode cX12_isDigit 1 = .ok (.invokevirtual 118, 3) := by decide +kernel
theorem dX12_isDigit_4 : decode cX12_isDigit 4 = .ok (.bipush 48, 2) := by decide +kernel
theorem dX12_isDigit_6 : decode cX12_isDigit 6 = .ok (.if_icmp .lt 16, 3) := by decide +kernel
theorem dX12_isDigit_9 : decode cX12_isDigit 9 = .ok (.aload_n 0, 1) := by decide +kernel
theorem dX12_isDigit_10 : decode cX12_isDigit 10 = .ok (.invokevirtual 118, 3) := by decide +kernel
theorem dX12_isDigit_13 : decode cX12_isDigit 13 = .ok (.bipush 57, 2) := by decide +kernel
theorem dX12_isDigit_15 : decode cX12_isDigit 15 = .ok (.if_icmp .gt 7, 3) := by decide +kernel
theorem dX12_isDigit_18 : decode cX12_isDigit 18 = .ok (.iconst 1, 1) := by decide +kernel
theorem dX12_isDigit_19 : decode cX12_isDigit 19 = .ok (.goto 4, 3) := by decide +kernel
theorem dX12_isDigit_22 : decode cX12_isDigit 22 = .ok (.iconst 0, 1) := by decide +kernel
theorem dX12_isDigit_23 : decode cX12_isDigit 23 = .ok (.ireturn, 1) := by decide +kernel
theorem dX12_word_0 : decode cX12_word 0 = .ok (.aload_n 0, 1) := by decide +kernel
theorem dX12_word_1 : decode cX12_word 1 = .ok (.getfield 122, 3) := by decide +kernel
theorem dX12_word_4 : decode cX12_word 4 = .ok (.iconst (-1), 1) := by decide +kernel
theorem dX12_word_5 : decode cX12_word 5 = .ok (.if_icmp .eq 4, 3) := by decide +kernel
theorem dX12_word_8 : decode cX12_word 8 = .ok (.return_, 1) := by decide +kernel
theorem dX12_word_9 : decode cX12_word 9 = .ok (.aload_n 0, 1) := by decide +kernel
theorem dX12_word_10 : decode cX12_word 10 = .ok (.invokevirtual 133, 3) := by decide +kernel
theorem dX12_word_13 : decode cX12_word 13 = .ok (.istore_n 1, 1) := by decide +kernel
theorem dX12_word_14 : decode cX12_word 14 = .ok (.aload_n 0, 1) := by decide +kernel
theorem dX12_word_15 : decode cX12_word 15 = .ok (.aload_n 0, 1) := by decide +kernel
theorem dX12_word_16 : decode cX12_word 16 = .ok (.getfield 115, 3) := by decide +kernel
theorem dX12_word_19 : decode cX12_word 19 = .ok (.putfield 136, 3) := by decide +kernel
theorem dX12_word_22 : decode cX12_word 22 = .ok (.aload_n 0, 1) := by decide +kernel
theorem dX12_word_23 : decode cX12_word 23 = .ok (.lconst 0, 1) := by decide +kernel
theorem dX12_word_24 : decode cX12_word 24 = .ok (.putfield 139, 3) := by decide +kernel
theorem dX12_word_27 : decode cX12_word 27 = .ok (.aload_n 0, 1) := by decide +kernel
theorem dX12_word_28 : decode cX12_word 28 = .ok (.invokevirtual 143, 3) := by decide +kernel
theorem dX12_word_31 : decode cX12_word 31 = .ok (.ifCond .eq 47, 3) := by decide +kernel
theorem dX12_word_34 : decode cX12_word 34 = .ok (.aload_n 0, 1) := by decide +kernel
theorem dX12_word_35 : decode cX12_word 35 = .ok (.getfield 115, 3) := by decide +kernel
theorem dX12_word_38 : decode cX12_word 38 = .ok (.aload_n 0, 1) := by decide +kernel
theorem dX12_word_39 : decode cX12_word 39 = .ok (.getfield 136, 3) := by decide +kernel
theorem dX12_word_42 : decode cX12_word 42 = .ok (.isub, 1) := by decide +kernel
theorem dX12_word_43 : decode cX12_word 43 = .ok (.bipush 7, 2) := by decide +kernel
theorem dX12_word_45 : decode cX12_word 45 = .ok (.if_icmp .ge 20, 3) := by decide +kernel
theorem dX12_word_48 : decode cX12_word 48 = .ok (.aload_n 0, 1) := by decide +kernel
theorem dX12_word_49 : decode cX12_word 49 = .ok (.aload_n 0, 1) := by decide +kernel
theorem dX12_word_50 : decode cX12_word 50 = .ok (.getfield 139, 3) := by decide +kernel
theorem dX12_word_53 : decode cX12_word 53 = .ok (.bipush 8, 2) := by decide +kernel
theorem dX12_word_55 : decode cX12_word 55 = .ok (.lshl, 1) := by decide +kernel
theorem dX12_word_56 : decode cX12_word 56 = .ok (.aload_n 0, 1) := by decide +kernel
theorem dX12_word_57 : decode cX12_word 57 = .ok (.invokevirtual 118, 3) := by decide +kernel
theorem dX12_word_60 : decode cX12_word 60 = .ok (.i2l, 1) := by decide +kernel
theorem dX12_word_61 : decode cX12_word 61 = .ok (.lor, 1) := by decide +kernel
theorem dX12_word_62 : decode cX12_word 62 = .ok (.putfield 139, 3) := by decide +kernel
theorem dX12_word_65 : decode cX12_word 65 = .ok (.aload_n 0, 1) := by decide +kernel
theorem dX12_word_66 : decode cX12_word 66 = .ok (.dup, 1) := by decide +kernel
theorem dX12_word_67 : decode cX12_word 67 = .ok (.getfield 115, 3) := by decide +kernel
theorem dX12_word_70 : decode cX12_word 70 = .ok (.iconst 1, 1) := by decide +kernel
theorem dX12_word_71 : decode cX12_word 71 = .ok (.iadd, 1) := by decide +kernel
theorem dX12_word_72 : decode cX12_word 72 = .ok (.putfield 115, 3) := by decide +kernel
theorem dX12_word_75 : decode cX12_word 75 = .ok (.goto (-48), 3) := by decide +kernel
theorem dX12_word_78 : decode cX12_word 78 = .ok (.aload_n 0, 1) := by decide +kernel
theorem dX12_word_79 : decode cX12_word 79 = .ok (.getfield 115, 3) := by decide +kernel
theorem dX12_word_82 : decode cX12_word 82 = .ok (.aload_n 0, 1) := by decide +kernel
theorem dX12_word_83 : decode cX12_word 83 = .ok (.getfield 136, 3) := by decide +kernel
theorem dX12_word_86 : decode cX12_word 86 = .ok (.if_icmp .eq 17, 3) := by decide +kernel
theorem dX12_word_89 : decode cX12_word 89 = .ok (.aload_n 0, 1) := by decide +kernel
theorem dX12_word_90 : decode cX12_word 90 = .ok (.getfield 115, 3) := by decide +kernel
theorem dX12_word_93 : decode cX12_word 93 = .ok (.aload_n 0, 1) := by decide +kernel
theorem dX12_word_94 : decode cX12_word 94 = .ok (.getfield 136, 3) := by decide +kernel
theorem dX12_word_97 : decode cX12_word 97 = .ok (.isub, 1) := by decide +kernel
theorem dX12_word_98 : decode cX12_word 98 = .ok (.bipush 7, 2) := by decide +kernel
theorem dX12_word_100 : decode cX12_word 100 = .ok (.if_icmp .le 11, 3) := by decide +kernel
theorem dX12_word_103 : decode cX12_word 103 = .ok (.aload_n 0, 1) := by decide +kernel
theorem dX12_word_104 : decode cX12_word 104 = .ok (.aload_n 0, 1) := by decide +kernel
theorem dX12_word_105 : decode cX12_word 105 = .ok (.getfield 136, 3) := by decide +kernel
theorem dX12_word_108 : decode cX12_word 108 = .ok (.invokevirtual 147, 3) := by decide +kernel
theorem dX12_word_111 : decode cX12_word 111 = .ok (.return_, 1) := by decide +kernel
theorem dX12_known_0 : decode cX12_known 0 = .ok (.iconst 0, 1) := by decide +kernel
theorem dX12_known_1 : decode cX12_known 1 = .ok (.istore_n 2, 1) := by decide +kernel
theorem dX12_known_2 : decode cX12_known 2 = .ok (.lconst 0, 1) := by decide +kernel
theorem dX12_known_3 : decode cX12_known 3 = .ok (.lstore_n 3, 1) := by decide +kernel
theorem dX12_known_4 : decode cX12_known 4 = .ok (.iconst 0, 1) := by decide +kernel
theorem dX12_known_5 : decode cX12_known 5 = .ok (.istore 5, 2) := by decide +kernel
theorem dX12_known_7 : decode cX12_known 7 = .ok (.iload 5, 2) := by decide +kernel
theorem dX12_known_9 : decode cX12_known 9 = .ok (.ldc 150, 2) := by decide +kernel
theorem dX12_known_11 : decode cX12_known 11 = .ok (.invokevirtual 125, 3) := by decide +kernel
theorem dX12_known_14 : decode cX12_known 14 = .ok (.if_icmp .ge 51, 3) := by decide +kernel
theorem dX12_known_17 : decode cX12_known 17 = .ok (.ldc 150, 2) := by decide +kernel
theorem dX12_known_19 : decode cX12_known 19 = .ok (.iload 5, 2) := by decide +kernel
theorem dX12_known_21 : decode cX12_known 21 = .ok (.invokevirtual 129, 3) := by decide +kernel
theorem dX12_known_24 : decode cX12_known 24 = .ok (.bipush 32, 2) := by decide +kernel
theorem dX12_known_26 : decode cX12_known 26 = .ok (.if_icmp .eq 20, 3) := by decide +kernel
theorem dX12_known_29 : decode cX12_known 29 = .ok (.lload_n 3, 1) := by decide +kernel
theorem dX12_known_30 : decode cX12_known 30 = .ok (.bipush 8, 2) := by decide +kernel
theorem dX12_known_32 : decode cX12_known 32 = .ok (.lshl, 1) := by decide +kernel
theorem dX12_known_33 : decode cX12_known 33 = .ok (.ldc 150, 2) := by decide +kernel
theorem dX12_known_35 : decode cX12_known 35 = .ok (.iload 5, 2) := by decide +kernel
theorem dX12_known_37 : decode cX12_known 37 = .ok (.invokevirtual 129, 3) := by decide +kernel
theorem dX12_known_40 : decode cX12_known 40 = .ok (.i2l, 1) := by decide +kernel
theorem dX12_known_41 : decode cX12_known 41 = .ok (.lor, 1) := by decide +kernel
theorem dX12_known_42 : decode cX12_known 42 = .ok (.lstore_n 3, 1) := by decide +kernel
theorem dX12_known_43 : decode cX12_known 43 = .ok (.goto 16, 3) := by decide +kernel
theorem dX12_known_46 : decode cX12_known 46 = .ok (.lload_n 3, 1) := by decide +kernel
theorem dX12_known_47 : decode cX12_known 47 = .ok (.lload_n 0, 1) := by decide +kernel
theorem dX12_known_48 : decode cX12_known 48 = .ok (.lcmp, 1) := by decide +kernel
theorem dX12_known_49 : decode cX12_known 49 = .ok (.ifCond .ne 5, 3) := by decide +kernel
theorem dX12_known_52 : decode cX12_known 52 = .ok (.iload_n 2, 1) := by decide +kernel
theorem dX12_known_53 : decode cX12_known 53 = .ok (.ireturn, 1) := by decide +kernel
theorem dX12_known_54 : decode cX12_known 54 = .ok (.lconst 0, 1) := by decide +kernel
theorem dX12_known_55 : decode cX12_known 55 = .ok (.lstore_n 3, 1) := by decide +kernel
theorem dX12_known_56 : decode cX12_known 56 = .ok (.iinc 2 1, 3) := by decide +kernel
theorem dX12_known_59 : decode cX12_known 59 = .ok (.iinc 5 1, 3) := by decide +kernel
theorem dX12_known_62 : decode cX12_known 62 = .ok (.goto (-55), 3) := by decide +kernel
theorem dX12_known_65 : decode cX12_known 65 = .ok (.iconst (-1), 1) := by decide +kernel
theorem dX12_known_66 : decode cX12_known 66 = .ok (.ireturn, 1) := by decide +kernel
theorem dX12_number_0 : decode cX12_number 0 = .ok (.aload_n 0, 1) := by decide +kernel
theorem dX12_number_1 : decode cX12_number 1 = .ok (.getfield 122, 3) := by decide +kernel
theorem dX12_number_4 : decode cX12_number 4 = .ok (.iconst (-1), 1) := by decide +kernel
theorem dX12_number_5 : decode cX12_number 5 = .ok (.if_icmp .eq 5, 3) := by decide +kernel
theorem dX12_number_8 : decode cX12_number 8 = .ok (.iload_n 1, 1) := by decide +kernel
theorem dX12_number_9 : decode cX12_number 9 = .ok (.ireturn, 1) := by decide +kernel
theorem dX12_number_10 : decode cX12_number 10 = .ok (.aload_n 0, 1) := by decide +kernel
theorem dX12_number_11 : decode cX12_number 11 = .ok (.invokevirtual 133, 3) := by decide +kernel
theorem dX12_number_14 : decode cX12_number 14 = .ok (.istore_n 3, 1) := by decide +kernel
theorem dX12_number_15 : decode cX12_number 15 = .ok (.aload_n 0, 1) := by decide +kernel
theorem dX12_number_16 : decode cX12_number 16 = .ok (.aload_n 0, 1) := by decide +kernel
theorem dX12_number_17 : decode cX12_number 17 = .ok (.getfield 115, 3) := by decide +kernel
theorem dX12_number_20 : decode cX12_number 20 = .ok (.putfield 136, 3) := by decide +kernel
theorem dX12_number_23 : decode cX12_number 23 = .ok (.aload_n 0, 1) := by decide +kernel
theorem dX12_number_24 : decode cX12_number 24 = .ok (.invokevirtual 152, 3) := by decide +kernel
theorem dX12_number_27 : decode cX12_number 27 = .ok (.ifCond .ne 13, 3) := by decide +kernel
theorem dX12_number_30 : decode cX12_number 30 = .ok (.aload_n 0, 1) := by decide +kernel
theorem dX12_number_31 : decode cX12_number 31 = .ok (.aload_n 0, 1) := by decide +kernel
theorem dX12_number_32 : decode cX12_number 32 = .ok (.getfield 136, 3) := by decide +kernel
theorem dX12_number_35 : decode cX12_number 35 = .ok (.invokevirtual 147, 3) := by decide +kernel
theorem dX12_number_38 : decode cX12_number 38 = .ok (.iload_n 1, 1) := by decide +kernel
theorem dX12_number_39 : decode cX12_number 39 = .ok (.ireturn, 1) := by decide +kernel
theorem dX12_number_40 : decode cX12_number 40 = .ok (.iconst 0, 1) := by decide +kernel
theorem dX12_number_41 : decode cX12_number 41 = .ok (.istore 4, 2) := by decide +kernel
theorem dX12_number_43 : decode cX12_number 43 = .ok (.aload_n 0, 1) := by decide +kernel
theorem dX12_number_44 : decode cX12_number 44 = .ok (.invokevirtual 152, 3) := by decide +kernel
theorem dX12_number_47 : decode cX12_number 47 = .ok (.ifCond .eq 43, 3) := by decide +kernel
theorem dX12_number_50 : decode cX12_number 50 = .ok (.iload 4, 2) := by decide +kernel
theorem dX12_number_52 : decode cX12_number 52 = .ok (.ldc 155, 2) := by decide +kernel
theorem dX12_number_54 : decode cX12_number 54 = .ok (.if_icmp .le 8, 3) := by decide +kernel
theorem dX12_number_57 : decode cX12_number 57 = .ok (.iload 4, 2) := by decide +kernel
theorem dX12_number_59 : decode cX12_number 59 = .ok (.goto 16, 3) := by decide +kernel
theorem dX12_number_62 : decode cX12_number 62 = .ok (.bipush 10, 2) := by decide +kernel
theorem dX12_number_64 : decode cX12_number 64 = .ok (.iload 4, 2) := by decide +kernel
theorem dX12_number_66 : decode cX12_number 66 = .ok (.imul, 1) := by decide +kernel
theorem dX12_number_67 : decode cX12_number 67 = .ok (.aload_n 0, 1) := by decide +kernel
theorem dX12_number_68 : decode cX12_number 68 = .ok (.invokevirtual 118, 3) := by decide +kernel
theorem dX12_number_71 : decode cX12_number 71 = .ok (.iadd, 1) := by decide +kernel
theorem dX12_number_72 : decode cX12_number 72 = .ok (.bipush 48, 2) := by decide +kernel
theorem dX12_number_74 : decode cX12_number 74 = .ok (.isub, 1) := by decide +kernel
theorem dX12_number_75 : decode cX12_number 75 = .ok (.istore 4, 2) := by decide +kernel
theorem dX12_number_77 : decode cX12_number 77 = .ok (.aload_n 0, 1) := by decide +kernel
theorem dX12_number_78 : decode cX12_number 78 = .ok (.dup, 1) := by decide +kernel
theorem dX12_number_79 : decode cX12_number 79 = .ok (.getfield 115, 3) := by decide +kernel
theorem dX12_number_82 : decode cX12_number 82 = .ok (.iconst 1, 1) := by decide +kernel
theorem dX12_number_83 : decode cX12_number 83 = .ok (.iadd, 1) := by decide +kernel
theorem dX12_number_84 : decode cX12_number 84 = .ok (.putfield 115, 3) := by decide +kernel
theorem dX12_number_87 : decode cX12_number 87 = .ok (.goto (-44), 3) := by decide +kernel
theorem dX12_number_90 : decode cX12_number 90 = .ok (.iload 4, 2) := by decide +kernel
theorem dX12_number_92 : decode cX12_number 92 = .ok (.i2l, 1) := by decide +kernel
theorem dX12_number_93 : decode cX12_number 93 = .ok (.iload_n 1, 1) := by decide +kernel
theorem dX12_number_94 : decode cX12_number 94 = .ok (.i2l, 1) := by decide +kernel
theorem dX12_number_95 : decode cX12_number 95 = .ok (.iload_n 2, 1) := by decide +kernel
theorem dX12_number_96 : decode cX12_number 96 = .ok (.i2l, 1) := by decide +kernel
theorem dX12_number_97 : decode cX12_number 97 = .ok (.invokestatic 156, 3) := by decide +kernel
theorem dX12_number_100 : decode cX12_number 100 = .ok (.ifCond .ne 11, 3) := by decide +kernel
theorem dX12_number_103 : decode cX12_number 103 = .ok (.aload_n 0, 1) := by decide +kernel
theorem dX12_number_104 : decode cX12_number 104 = .ok (.aload_n 0, 1) := by decide +kernel
theorem dX12_number_105 : decode cX12_number 105 = .ok (.getfield 136, 3) := by decide +kernel
theorem dX12_number_108 : decode cX12_number 108 = .ok (.invokevirtual 147, 3) := by decide +kernel
theorem dX12_number_111 : decode cX12_number 111 = .ok (.aload_n 0, 1) := by decide +kernel
theorem dX12_number_112 : decode cX12_number 112 = .ok (.getfield 122, 3) := by decide +kernel
theorem dX12_number_115 : decode cX12_number 115 = .ok (.iconst (-1), 1) := by decide +kernel
theorem dX12_number_116 : decode cX12_number 116 = .ok (.if_icmp .ne 8, 3) := by decide +kernel
theorem dX12_number_119 : decode cX12_number 119 = .ok (.iload 4, 2) := by decide +kernel
theorem dX12_number_121 : decode cX12_number 121 = .ok (.goto 4, 3) := by decide +kernel
theorem dX12_number_124 : decode cX12_number 124 = .ok (.iload_n 1, 1) := by decide +kernel
theorem dX12_number_125 : decode cX12_number 125 = .ok (.ireturn, 1) := by decide +kernel
theorem dX12_spotOf_0 : decode cX12_spotOf 0 = .ok (.iconst 0, 1) := by decide +kernel
theorem dX12_spotOf_1 : decode cX12_spotOf 1 = .ok (.istore 4, 2) := by decide +kernel
theorem dX12_spotOf_3 : decode cX12_spotOf 3 = .ok (.iload 4, 2) := by decide +kernel
theorem dX12_spotOf_5 : decode cX12_spotOf 5 = .ok (.iload_n 1, 1) := by decide +kernel
theorem dX12_spotOf_6 : decode cX12_spotOf 6 = .ok (.if_icmp .ge 21, 3) := by decide +kernel
theorem dX12_spotOf_9 : decode cX12_spotOf 9 = .ok (.aload_n 0, 1) := by decide +kernel
theorem dX12_spotOf_10 : decode cX12_spotOf 10 = .ok (.iload 4, 2) := by decide +kernel
theorem dX12_spotOf_12 : decode cX12_spotOf 12 = .ok (.laload, 1) := by decide +kernel
theorem dX12_spotOf_13 : decode cX12_spotOf 13 = .ok (.lload_n 2, 1) := by decide +kernel
theorem dX12_spotOf_14 : decode cX12_spotOf 14 = .ok (.lcmp, 1) := by decide +kernel
theorem dX12_spotOf_15 : decode cX12_spotOf 15 = .ok (.ifCond .ne 6, 3) := by decide +kernel
theorem dX12_spotOf_18 : decode cX12_spotOf 18 = .ok (.iload 4, 2) := by decide +kernel
theorem dX12_spotOf_20 : decode cX12_spotOf 20 = .ok (.ireturn, 1) := by decide +kernel
theorem dX12_spotOf_21 : decode cX12_spotOf 21 = .ok (.iinc 4 1, 3) := by decide +kernel
theorem dX12_spotOf_24 : decode cX12_spotOf 24 = .ok (.goto (-21), 3) := by decide +kernel
theorem dX12_spotOf_27 : decode cX12_spotOf 27 = .ok (.iconst (-1), 1) := by decide +kernel
theorem dX12_spotOf_28 : decode cX12_spotOf 28 = .ok (.ireturn, 1) := by decide +kernel
theorem dX12_freshName_0 : decode cX12_freshName 0 = .ok (.aload_n 0, 1) := by decide +kernel
theorem dX12_freshName_1 : decode cX12_freshName 1 = .ok (.invokevirtual 160, 3) := by decide +kernel
theorem dX12_freshName_4 : decode cX12_freshName 4 = .ok (.aload_n 0, 1) := by decide +kernel
theorem dX12_freshName_5 : decode cX12_freshName 5 = .ok (.getfield 122, 3) := by decide +kernel
theorem dX12_freshName_8 : decode cX12_freshName 8 = .ok (.iconst (-1), 1) := by decide +kernel
theorem dX12_freshName_9 : decode cX12_freshName 9 = .ok (.if_icmp .ne 60, 3) := by decide +kernel
theorem dX12_freshName_12 : decode cX12_freshName 12 = .ok (.aload_n 0, 1) := by decide +kernel
theorem dX12_freshName_13 : decode cX12_freshName 13 = .ok (.getfield 139, 3) := by decide +kernel
theorem dX12_freshName_16 : decode cX12_freshName 16 = .ok (.invokestatic 162, 3) := by decide +kernel
theorem dX12_freshName_19 : decode cX12_freshName 19 = .ok (.iconst (-1), 1) := by decide +kernel
theorem dX12_freshName_20 : decode cX12_freshName 20 = .ok (.if_icmp .ne 41, 3) := by decide +kernel
theorem dX12_freshName_23 : decode cX12_freshName 23 = .ok (.aload_n 0, 1) := by decide +kernel
theorem dX12_freshName_24 : decode cX12_freshName 24 = .ok (.getfield 41, 3) := by decide +kernel
theorem dX12_freshName_27 : decode cX12_freshName 27 = .ok (.aload_n 0, 1) := by decide +kernel
theorem dX12_freshName_28 : decode cX12_freshName 28 = .ok (.getfield 166, 3) := by decide +kernel
theorem dX12_freshName_31 : decode cX12_freshName 31 = .ok (.aload_n 0, 1) := by decide +kernel
theorem dX12_freshName_32 : decode cX12_freshName 32 = .ok (.getfield 139, 3) := by decide +kernel
theorem dX12_freshName_35 : decode cX12_freshName 35 = .ok (.invokestatic 169, 3) := by decide +kernel
theorem dX12_freshName_38 : decode cX12_freshName 38 = .ok (.iconst (-1), 1) := by decide +kernel
theorem dX12_freshName_39 : decode cX12_freshName 39 = .ok (.if_icmp .ne 22, 3) := by decide +kernel
theorem dX12_freshName_42 : decode cX12_freshName 42 = .ok (.aload_n 0, 1) := by decide +kernel
theorem dX12_freshName_43 : decode cX12_freshName 43 = .ok (.getfield 48, 3) := by decide +kernel
theorem dX12_freshName_46 : decode cX12_freshName 46 = .ok (.aload_n 0, 1) := by decide +kernel
theorem dX12_freshName_47 : decode cX12_freshName 47 = .ok (.getfield 173, 3) := by decide +kernel
theorem dX12_freshName_50 : decode cX12_freshName 50 = .ok (.aload_n 0, 1) := by decide +kernel
theorem dX12_freshName_51 : decode cX12_freshName 51 = .ok (.getfield 139, 3) := by decide +kernel
theorem dX12_freshName_54 : decode cX12_freshName 54 = .ok (.invokestatic 169, 3) := by decide +kernel
theorem dX12_freshName_57 : decode cX12_freshName 57 = .ok (.iconst (-1), 1) := by decide +kernel
theorem dX12_freshName_58 : decode cX12_freshName 58 = .ok (.if_icmp .eq 11, 3) := by decide +kernel
theorem dX12_freshName_61 : decode cX12_freshName 61 = .ok (.aload_n 0, 1) := by decide +kernel
theorem dX12_freshName_62 : decode cX12_freshName 62 = .ok (.aload_n 0, 1) := by decide +kernel
theorem dX12_freshName_63 : decode cX12_freshName 63 = .ok (.getfield 136, 3) := by decide +kernel
theorem dX12_freshName_66 : decode cX12_freshName 66 = .ok (.invokevirtual 147, 3) := by decide +kernel
theorem dX12_freshName_69 : decode cX12_freshName 69 = .ok (.return_, 1) := by decide +kernel
theorem dX12_readCluster_0 : decode cX12_readCluster 0 = .ok (.aload_n 0, 1) := by decide +kernel
theorem dX12_readCluster_1 : decode cX12_readCluster 1 = .ok (.invokevirtual 176, 3) := by decide +kernel
theorem dX12_readCluster_4 : decode cX12_readCluster 4 = .ok (.aload_n 0, 1) := by decide +kernel
theorem dX12_readCluster_5 : decode cX12_readCluster 5 = .ok (.getfield 139, 3) := by decide +kernel
theorem dX12_readCluster_8 : decode cX12_readCluster 8 = .ok (.lstore_n 1, 1) := by decide +kernel
theorem dX12_readCluster_9 : decode cX12_readCluster 9 = .ok (.iconst 4, 1) := by decide +kernel
theorem dX12_readCluster_10 : decode cX12_readCluster 10 = .ok (.aload_n 0, 1) := by decide +kernel
theorem dX12_readCluster_11 : decode cX12_readCluster 11 = .ok (.getfield 166, 3) := by decide +kernel
theorem dX12_readCluster_14 : decode cX12_readCluster 14 = .ok (.imul, 1) := by decide +kernel
theorem dX12_readCluster_15 : decode cX12_readCluster 15 = .ok (.istore_n 3, 1) := by decide +kernel
theorem dX12_readCluster_16 : decode cX12_readCluster 16 = .ok (.aload_n 0, 1) := by decide +kernel
theorem dX12_readCluster_17 : decode cX12_readCluster 17 = .ok (.getfield 20, 3) := by decide +kernel
theorem dX12_readCluster_20 : decode cX12_readCluster 20 = .ok (.iload_n 3, 1) := by decide +kernel
theorem dX12_readCluster_21 : decode cX12_readCluster 21 = .ok (.aload_n 0, 1) := by decide +kernel
theorem dX12_readCluster_22 : decode cX12_readCluster 22 = .ok (.iconst 1, 1) := by decide +kernel
theorem dX12_readCluster_23 : decode cX12_readCluster 23 = .ok (.iconst 3, 1) := by decide +kernel
theorem dX12_readCluster_24 : decode cX12_readCluster 24 = .ok (.invokevirtual 179, 3) := by decide +kernel
theorem dX12_readCluster_27 : decode cX12_readCluster 27 = .ok (.iastore, 1) := by decide +kernel
theorem dX12_readCluster_28 : decode cX12_readCluster 28 = .ok (.aload_n 0, 1) := by decide +kernel
theorem dX12_readCluster_29 : decode cX12_readCluster 29 = .ok (.getfield 122, 3) := by decide +kernel
theorem dX12_readCluster_32 : decode cX12_readCluster 32 = .ok (.iconst (-1), 1) := by decide +kernel
theorem dX12_readCluster_33 : decode cX12_readCluster 33 = .ok (.if_icmp .ne 27, 3) := by decide +kernel
theorem dX12_readCluster_36 : decode cX12_readCluster 36 = .ok (.aload_n 0, 1) := by decide +kernel
theorem dX12_readCluster_37 : decode cX12_readCluster 37 = .ok (.getfield 183, 3) := by decide +kernel
theorem dX12_readCluster_40 : decode cX12_readCluster 40 = .ok (.aload_n 0, 1) := by decide +kernel
theorem dX12_readCluster_41 : decode cX12_readCluster 41 = .ok (.getfield 20, 3) := by decide +kernel
theorem dX12_readCluster_44 : decode cX12_readCluster 44 = .ok (.iload_n 3, 1) := by decide +kernel
theorem dX12_readCluster_45 : decode cX12_readCluster 45 = .ok (.iaload, 1) := by decide +kernel
theorem dX12_readCluster_46 : decode cX12_readCluster 46 = .ok (.iadd, 1) := by decide +kernel
theorem dX12_readCluster_47 : decode cX12_readCluster 47 = .ok (.bipush 6, 2) := by decide +kernel
theorem dX12_readCluster_49 : decode cX12_readCluster 49 = .ok (.if_icmp .le 11, 3) := by decide +kernel
theorem dX12_readCluster_52 : decode cX12_readCluster 52 = .ok (.aload_n 0, 1) := by decide +kernel
theorem dX12_readCluster_53 : decode cX12_readCluster 53 = .ok (.aload_n 0, 1) := by decide +kernel
theorem dX12_readCluster_54 : decode cX12_readCluster 54 = .ok (.getfield 136, 3) := by decide +kernel
theorem dX12_readCluster_57 : decode cX12_readCluster 57 = .ok (.invokevirtual 147, 3) := by decide +kernel
theorem dX12_readCluster_60 : decode cX12_readCluster 60 = .ok (.aload_n 0, 1) := by decide +kernel
theorem dX12_readCluster_61 : decode cX12_readCluster 61 = .ok (.getfield 20, 3) := by decide +kernel
theorem dX12_readCluster_64 : decode cX12_readCluster 64 = .ok (.iload_n 3, 1) := by decide +kernel
theorem dX12_readCluster_65 : decode cX12_readCluster 65 = .ok (.iconst 1, 1) := by decide +kernel
theorem dX12_readCluster_66 : decode cX12_readCluster 66 = .ok (.iadd, 1) := by decide +kernel
theorem dX12_readCluster_67 : decode cX12_readCluster 67 = .ok (.aload_n 0, 1) := by decide +kernel
theorem dX12_readCluster_68 : decode cX12_readCluster 68 = .ok (.iconst 0, 1) := by decide +kernel
theorem dX12_readCluster_69 : decode cX12_readCluster 69 = .ok (.bipush 99, 2) := by decide +kernel
theorem dX12_readCluster_71 : decode cX12_readCluster 71 = .ok (.invokevirtual 179, 3) := by decide +kernel
theorem dX12_readCluster_74 : decode cX12_readCluster 74 = .ok (.iastore, 1) := by decide +kernel
theorem dX12_readCluster_75 : decode cX12_readCluster 75 = .ok (.aload_n 0, 1) := by decide +kernel
theorem dX12_readCluster_76 : decode cX12_readCluster 76 = .ok (.getfield 20, 3) := by decide +kernel
theorem dX12_readCluster_79 : decode cX12_readCluster 79 = .ok (.iload_n 3, 1) := by decide +kernel
theorem dX12_readCluster_80 : decode cX12_readCluster 80 = .ok (.iconst 2, 1) := by decide +kernel
theorem dX12_readCluster_81 : decode cX12_readCluster 81 = .ok (.iadd, 1) := by decide +kernel
theorem dX12_readCluster_82 : decode cX12_readCluster 82 = .ok (.aload_n 0, 1) := by decide +kernel
theorem dX12_readCluster_83 : decode cX12_readCluster 83 = .ok (.iconst 0, 1) := by decide +kernel
theorem dX12_readCluster_84 : decode cX12_readCluster 84 = .ok (.bipush 99, 2) := by decide +kernel
theorem dX12_readCluster_86 : decode cX12_readCluster 86 = .ok (.invokevirtual 179, 3) := by decide +kernel
theorem dX12_readCluster_89 : decode cX12_readCluster 89 = .ok (.iastore, 1) := by decide +kernel
theorem dX12_readCluster_90 : decode cX12_readCluster 90 = .ok (.aload_n 0, 1) := by decide +kernel
theorem dX12_readCluster_91 : decode cX12_readCluster 91 = .ok (.getfield 20, 3) := by decide +kernel
theorem dX12_readCluster_94 : decode cX12_readCluster 94 = .ok (.iload_n 3, 1) := by decide +kernel
theorem dX12_readCluster_95 : decode cX12_readCluster 95 = .ok (.iconst 3, 1) := by decide +kernel
theorem dX12_readCluster_96 : decode cX12_readCluster 96 = .ok (.iadd, 1) := by decide +kernel
theorem dX12_readCluster_97 : decode cX12_readCluster 97 = .ok (.iconst 0, 1) := by decide +kernel
theorem dX12_readCluster_98 : decode cX12_readCluster 98 = .ok (.iastore, 1) := by decide +kernel
theorem dX12_readCluster_99 : decode cX12_readCluster 99 = .ok (.aload_n 0, 1) := by decide +kernel
theorem dX12_readCluster_100 : decode cX12_readCluster 100 = .ok (.getfield 122, 3) := by decide +kernel
theorem dX12_readCluster_103 : decode cX12_readCluster 103 = .ok (.iconst (-1), 1) := by decide +kernel
theorem dX12_readCluster_104 : decode cX12_readCluster 104 = .ok (.if_icmp .eq 4, 3) := by decide +kernel
theorem dX12_readCluster_107 : decode cX12_readCluster 107 = .ok (.return_, 1) := by decide +kernel
theorem dX12_readCluster_108 : decode cX12_readCluster 108 = .ok (.aload_n 0, 1) := by decide +kernel
theorem dX12_readCluster_109 : decode cX12_readCluster 109 = .ok (.getfield 41, 3) := by decide +kernel
theorem dX12_readCluster_112 : decode cX12_readCluster 112 = .ok (.aload_n 0, 1) := by decide +kernel
theorem dX12_readCluster_113 : decode cX12_readCluster 113 = .ok (.getfield 166, 3) := by decide +kernel
theorem dX12_readCluster_116 : decode cX12_readCluster 116 = .ok (.lload_n 1, 1) := by decide +kernel
theorem dX12_readCluster_117 : decode cX12_readCluster 117 = .ok (.lastore, 1) := by decide +kernel
theorem dX12_readCluster_118 : decode cX12_readCluster 118 = .ok (.aload_n 0, 1) := by decide +kernel
theorem dX12_readCluster_119 : decode cX12_readCluster 119 = .ok (.dup, 1) := by decide +kernel
theorem dX12_readCluster_120 : decode cX12_readCluster 120 = .ok (.getfield 183, 3) := by decide +kernel
theorem dX12_readCluster_123 : decode cX12_readCluster 123 = .ok (.aload_n 0, 1) := by decide +kernel
theorem dX12_readCluster_124 : decode cX12_readCluster 124 = .ok (.getfield 20, 3) := by decide +kernel
theorem dX12_readCluster_127 : decode cX12_readCluster 127 = .ok (.iload_n 3, 1) := by decide +kernel
theorem dX12_readCluster_128 : decode cX12_readCluster 128 = .ok (.iaload, 1) := by decide +kernel
theorem dX12_readCluster_129 : decode cX12_readCluster 129 = .ok (.iadd, 1) := by decide +kernel
theorem dX12_readCluster_130 : decode cX12_readCluster 130 = .ok (.putfield 183, 3) := by decide +kernel
theorem dX12_readCluster_133 : decode cX12_readCluster 133 = .ok (.aload_n 0, 1) := by decide +kernel
theorem dX12_readCluster_134 : decode cX12_readCluster 134 = .ok (.dup, 1) := by decide +kernel
theorem dX12_readCluster_135 : decode cX12_readCluster 135 = .ok (.getfield 166, 3) := by decide +kernel
theorem dX12_readCluster_138 : decode cX12_readCluster 138 = .ok (.iconst 1, 1) := by decide +kernel
theorem dX12_readCluster_139 : decode cX12_readCluster 139 = .ok (.iadd, 1) := by decide +kernel
theorem dX12_readCluster_140 : decode cX12_readCluster 140 = .ok (.putfield 166, 3) := by decide +kernel
theorem dX12_readCluster_143 : decode cX12_readCluster 143 = .ok (.return_, 1) := by decide +kernel
theorem dX12_readPoint_0 : decode cX12_readPoint 0 = .ok (.aload_n 0, 1) := by decide +kernel
theorem dX12_readPoint_1 : decode cX12_readPoint 1 = .ok (.invokevirtual 160, 3) := by decide +kernel
theorem dX12_readPoint_4 : decode cX12_readPoint 4 = .ok (.aload_n 0, 1) := by decide +kernel
theorem dX12_readPoint_5 : decode cX12_readPoint 5 = .ok (.getfield 122, 3) := by decide +kernel
theorem dX12_readPoint_8 : decode cX12_readPoint 8 = .ok (.iconst (-1), 1) := by decide +kernel
theorem dX12_readPoint_9 : decode cX12_readPoint 9 = .ok (.if_icmp .eq 4, 3) := by decide +kernel
theorem dX12_readPoint_12 : decode cX12_readPoint 12 = .ok (.return_, 1) := by decide +kernel
theorem dX12_readPoint_13 : decode cX12_readPoint 13 = .ok (.aload_n 0, 1) := by decide +kernel
theorem dX12_readPoint_14 : decode cX12_readPoint 14 = .ok (.getfield 41, 3) := by decide +kernel
theorem dX12_readPoint_17 : decode cX12_readPoint 17 = .ok (.aload_n 0, 1) := by decide +kernel
theorem dX12_readPoint_18 : decode cX12_readPoint 18 = .ok (.getfield 166, 3) := by decide +kernel
theorem dX12_readPoint_21 : decode cX12_readPoint 21 = .ok (.aload_n 0, 1) := by decide +kernel
theorem dX12_readPoint_22 : decode cX12_readPoint 22 = .ok (.getfield 139, 3) := by decide +kernel
theorem dX12_readPoint_25 : decode cX12_readPoint 25 = .ok (.invokestatic 169, 3) := by decide +kernel
theorem dX12_readPoint_28 : decode cX12_readPoint 28 = .ok (.istore_n 1, 1) := by decide +kernel
theorem dX12_readPoint_29 : decode cX12_readPoint 29 = .ok (.iload_n 1, 1) := by decide +kernel
theorem dX12_readPoint_30 : decode cX12_readPoint 30 = .ok (.iconst (-1), 1) := by decide +kernel
theorem dX12_readPoint_31 : decode cX12_readPoint 31 = .ok (.if_icmp .eq 17, 3) := by decide +kernel
theorem dX12_readPoint_34 : decode cX12_readPoint 34 = .ok (.aload_n 0, 1) := by decide +kernel
theorem dX12_readPoint_35 : decode cX12_readPoint 35 = .ok (.getfield 20, 3) := by decide +kernel
theorem dX12_readPoint_38 : decode cX12_readPoint 38 = .ok (.iconst 4, 1) := by decide +kernel
theorem dX12_readPoint_39 : decode cX12_readPoint 39 = .ok (.iload_n 1, 1) := by decide +kernel
theorem dX12_readPoint_40 : decode cX12_readPoint 40 = .ok (.imul, 1) := by decide +kernel
theorem dX12_readPoint_41 : decode cX12_readPoint 41 = .ok (.iconst 3, 1) := by decide +kernel
theorem dX12_readPoint_42 : decode cX12_readPoint 42 = .ok (.iadd, 1) := by decide +kernel
theorem dX12_readPoint_43 : decode cX12_readPoint 43 = .ok (.iaload, 1) := by decide +kernel
theorem dX12_readPoint_44 : decode cX12_readPoint 44 = .ok (.iconst 5, 1) := by decide +kernel
theorem dX12_readPoint_45 : decode cX12_readPoint 45 = .ok (.if_icmp .ne 12, 3) := by decide +kernel
theorem dX12_readPoint_48 : decode cX12_readPoint 48 = .ok (.aload_n 0, 1) := by decide +kernel
theorem dX12_readPoint_49 : decode cX12_readPoint 49 = .ok (.aload_n 0, 1) := by decide +kernel
theorem dX12_readPoint_50 : decode cX12_readPoint 50 = .ok (.getfield 136, 3) := by decide +kernel
theorem dX12_readPoint_53 : decode cX12_readPoint 53 = .ok (.invokevirtual 147, 3) := by decide +kernel
theorem dX12_readPoint_56 : decode cX12_readPoint 56 = .ok (.return_, 1) := by decide +kernel
theorem dX12_readPoint_57 : decode cX12_readPoint 57 = .ok (.aload_n 0, 1) := by decide +kernel
theorem dX12_readPoint_58 : decode cX12_readPoint 58 = .ok (.getfield 20, 3) := by decide +kernel
theorem dX12_readPoint_61 : decode cX12_readPoint 61 = .ok (.iconst 4, 1) := by decide +kernel
theorem dX12_readPoint_62 : decode cX12_readPoint 62 = .ok (.iload_n 1, 1) := by decide +kernel
theorem dX12_readPoint_63 : decode cX12_readPoint 63 = .ok (.imul, 1) := by decide +kernel
theorem dX12_readPoint_64 : decode cX12_readPoint 64 = .ok (.iconst 3, 1) := by decide +kernel
theorem dX12_readPoint_65 : decode cX12_readPoint 65 = .ok (.iadd, 1) := by decide +kernel
theorem dX12_readPoint_66 : decode cX12_readPoint 66 = .ok (.iaload, 1) := by decide +kernel
theorem dX12_readPoint_67 : decode cX12_readPoint 67 = .ok (.istore_n 2, 1) := by decide +kernel
theorem dX12_readPoint_68 : decode cX12_readPoint 68 = .ok (.iconst 2, 1) := by decide +kernel
theorem dX12_readPoint_69 : decode cX12_readPoint 69 = .ok (.iconst 5, 1) := by decide +kernel
theorem dX12_readPoint_70 : decode cX12_readPoint 70 = .ok (.iload_n 1, 1) := by decide +kernel
theorem dX12_readPoint_71 : decode cX12_readPoint 71 = .ok (.imul, 1) := by decide +kernel
theorem dX12_readPoint_72 : decode cX12_readPoint 72 = .ok (.iload_n 2, 1) := by decide +kernel
theorem dX12_readPoint_73 : decode cX12_readPoint 73 = .ok (.iadd, 1) := by decide +kernel
theorem dX12_readPoint_74 : decode cX12_readPoint 74 = .ok (.imul, 1) := by decide +kernel
theorem dX12_readPoint_75 : decode cX12_readPoint 75 = .ok (.istore_n 3, 1) := by decide +kernel
theorem dX12_readPoint_76 : decode cX12_readPoint 76 = .ok (.aload_n 0, 1) := by decide +kernel
theorem dX12_readPoint_77 : decode cX12_readPoint 77 = .ok (.getfield 26, 3) := by decide +kernel
theorem dX12_readPoint_80 : decode cX12_readPoint 80 = .ok (.iload_n 3, 1) := by decide +kernel
theorem dX12_readPoint_81 : decode cX12_readPoint 81 = .ok (.aload_n 0, 1) := by decide +kernel
theorem dX12_readPoint_82 : decode cX12_readPoint 82 = .ok (.iload_n 2, 1) := by decide +kernel
theorem dX12_readPoint_83 : decode cX12_readPoint 83 = .ok (.ifCond .ne 7, 3) := by decide +kernel
theorem dX12_readPoint_86 : decode cX12_readPoint 86 = .ok (.iconst 1, 1) := by decide +kernel
theorem dX12_readPoint_87 : decode cX12_readPoint 87 = .ok (.goto 13, 3) := by decide +kernel
theorem dX12_readPoint_90 : decode cX12_readPoint 90 = .ok (.aload_n 0, 1) := by decide +kernel
theorem dX12_readPoint_91 : decode cX12_readPoint 91 = .ok (.getfield 26, 3) := by decide +kernel
theorem dX12_readPoint_94 : decode cX12_readPoint 94 = .ok (.iload_n 3, 1) := by decide +kernel
theorem dX12_readPoint_95 : decode cX12_readPoint 95 = .ok (.iconst 2, 1) := by decide +kernel
theorem dX12_readPoint_96 : decode cX12_readPoint 96 = .ok (.isub, 1) := by decide +kernel
theorem dX12_readPoint_97 : decode cX12_readPoint 97 = .ok (.iaload, 1) := by decide +kernel
theorem dX12_readPoint_98 : decode cX12_readPoint 98 = .ok (.iconst 1, 1) := by decide +kernel
theorem dX12_readPoint_99 : decode cX12_readPoint 99 = .ok (.iadd, 1) := by decide +kernel
theorem dX12_readPoint_100 : decode cX12_readPoint 100 = .ok (.bipush 99, 2) := by decide +kernel
theorem dX12_readPoint_102 : decode cX12_readPoint 102 = .ok (.invokevirtual 179, 3) := by decide +kernel
theorem dX12_readPoint_105 : decode cX12_readPoint 105 = .ok (.iastore, 1) := by decide +kernel
theorem dX12_readPoint_106 : decode cX12_readPoint 106 = .ok (.aload_n 0, 1) := by decide +kernel
theorem dX12_readPoint_107 : decode cX12_readPoint 107 = .ok (.getfield 26, 3) := by decide +kernel
theorem dX12_readPoint_110 : decode cX12_readPoint 110 = .ok (.iload_n 3, 1) := by decide +kernel
theorem dX12_readPoint_111 : decode cX12_readPoint 111 = .ok (.iconst 1, 1) := by decide +kernel
theorem dX12_readPoint_112 : decode cX12_readPoint 112 = .ok (.iadd, 1) := by decide +kernel
theorem dX12_readPoint_113 : decode cX12_readPoint 113 = .ok (.aload_n 0, 1) := by decide +kernel
theorem dX12_readPoint_114 : decode cX12_readPoint 114 = .ok (.iconst 1, 1) := by decide +kernel
theorem dX12_readPoint_115 : decode cX12_readPoint 115 = .ok (.bipush 99, 2) := by decide +kernel
theorem dX12_readPoint_117 : decode cX12_readPoint 117 = .ok (.invokevirtual 179, 3) := by decide +kernel
theorem dX12_readPoint_120 : decode cX12_readPoint 120 = .ok (.iastore, 1) := by decide +kernel
theorem dX12_readPoint_121 : decode cX12_readPoint 121 = .ok (.aload_n 0, 1) := by decide +kernel
theorem dX12_readPoint_122 : decode cX12_readPoint 122 = .ok (.getfield 122, 3) := by decide +kernel
theorem dX12_readPoint_125 : decode cX12_readPoint 125 = .ok (.iconst (-1), 1) := by decide +kernel
theorem dX12_readPoint_126 : decode cX12_readPoint 126 = .ok (.if_icmp .ne 17, 3) := by decide +kernel
theorem dX12_readPoint_129 : decode cX12_readPoint 129 = .ok (.aload_n 0, 1) := by decide +kernel
theorem dX12_readPoint_130 : decode cX12_readPoint 130 = .ok (.getfield 20, 3) := by decide +kernel
theorem dX12_readPoint_133 : decode cX12_readPoint 133 = .ok (.iconst 4, 1) := by decide +kernel
theorem dX12_readPoint_134 : decode cX12_readPoint 134 = .ok (.iload_n 1, 1) := by decide +kernel
theorem dX12_readPoint_135 : decode cX12_readPoint 135 = .ok (.imul, 1) := by decide +kernel
theorem dX12_readPoint_136 : decode cX12_readPoint 136 = .ok (.iconst 3, 1) := by decide +kernel
theorem dX12_readPoint_137 : decode cX12_readPoint 137 = .ok (.iadd, 1) := by decide +kernel
theorem dX12_readPoint_138 : decode cX12_readPoint 138 = .ok (.dup2, 1) := by decide +kernel
theorem dX12_readPoint_139 : decode cX12_readPoint 139 = .ok (.iaload, 1) := by decide +kernel
theorem dX12_readPoint_140 : decode cX12_readPoint 140 = .ok (.iconst 1, 1) := by decide +kernel
theorem dX12_readPoint_141 : decode cX12_readPoint 141 = .ok (.iadd, 1) := by decide +kernel
theorem dX12_readPoint_142 : decode cX12_readPoint 142 = .ok (.iastore, 1) := by decide +kernel
theorem dX12_readPoint_143 : decode cX12_readPoint 143 = .ok (.return_, 1) := by decide +kernel
theorem dX12_readTask_0 : decode cX12_readTask 0 = .ok (.aload_n 0, 1) := by decide +kernel
theorem dX12_readTask_1 : decode cX12_readTask 1 = .ok (.invokevirtual 176, 3) := by decide +kernel
theorem dX12_readTask_4 : decode cX12_readTask 4 = .ok (.aload_n 0, 1) := by decide +kernel
theorem dX12_readTask_5 : decode cX12_readTask 5 = .ok (.getfield 139, 3) := by decide +kernel
theorem dX12_readTask_8 : decode cX12_readTask 8 = .ok (.lstore_n 1, 1) := by decide +kernel
theorem dX12_readTask_9 : decode cX12_readTask 9 = .ok (.aload_n 0, 1) := by decide +kernel
theorem dX12_readTask_10 : decode cX12_readTask 10 = .ok (.getfield 32, 3) := by decide +kernel
theorem dX12_readTask_13 : decode cX12_readTask 13 = .ok (.iconst 2, 1) := by decide +kernel
theorem dX12_readTask_14 : decode cX12_readTask 14 = .ok (.aload_n 0, 1) := by decide +kernel
theorem dX12_readTask_15 : decode cX12_readTask 15 = .ok (.getfield 173, 3) := by decide +kernel
theorem dX12_readTask_18 : decode cX12_readTask 18 = .ok (.imul, 1) := by decide +kernel
theorem dX12_readTask_19 : decode cX12_readTask 19 = .ok (.aload_n 0, 1) := by decide +kernel
theorem dX12_readTask_20 : decode cX12_readTask 20 = .ok (.iconst 1, 1) := by decide +kernel
theorem dX12_readTask_21 : decode cX12_readTask 21 = .ok (.sipush 999, 3) := by decide +kernel
theorem dX12_readTask_24 : decode cX12_readTask 24 = .ok (.invokevirtual 179, 3) := by decide +kernel
theorem dX12_readTask_27 : decode cX12_readTask 27 = .ok (.iastore, 1) := by decide +kernel
theorem dX12_readTask_28 : decode cX12_readTask 28 = .ok (.aload_n 0, 1) := by decide +kernel
theorem dX12_readTask_29 : decode cX12_readTask 29 = .ok (.getfield 32, 3) := by decide +kernel
theorem dX12_readTask_32 : decode cX12_readTask 32 = .ok (.iconst 2, 1) := by decide +kernel
theorem dX12_readTask_33 : decode cX12_readTask 33 = .ok (.aload_n 0, 1) := by decide +kernel
theorem dX12_readTask_34 : decode cX12_readTask 34 = .ok (.getfield 173, 3) := by decide +kernel
theorem dX12_readTask_37 : decode cX12_readTask 37 = .ok (.imul, 1) := by decide +kernel
theorem dX12_readTask_38 : decode cX12_readTask 38 = .ok (.iconst 1, 1) := by decide +kernel
theorem dX12_readTask_39 : decode cX12_readTask 39 = .ok (.iadd, 1) := by decide +kernel
theorem dX12_readTask_40 : decode cX12_readTask 40 = .ok (.aload_n 0, 1) := by decide +kernel
theorem dX12_readTask_41 : decode cX12_readTask 41 = .ok (.iconst 1, 1) := by decide +kernel
theorem dX12_readTask_42 : decode cX12_readTask 42 = .ok (.bipush 20, 2) := by decide +kernel
theorem dX12_readTask_44 : decode cX12_readTask 44 = .ok (.invokevirtual 179, 3) := by decide +kernel
theorem dX12_readTask_47 : decode cX12_readTask 47 = .ok (.iastore, 1) := by decide +kernel
theorem dX12_readTask_48 : decode cX12_readTask 48 = .ok (.aload_n 0, 1) := by decide +kernel
theorem dX12_readTask_49 : decode cX12_readTask 49 = .ok (.getfield 122, 3) := by decide +kernel
theorem dX12_readTask_52 : decode cX12_readTask 52 = .ok (.iconst (-1), 1) := by decide +kernel
theorem dX12_readTask_53 : decode cX12_readTask 53 = .ok (.if_icmp .eq 4, 3) := by decide +kernel
theorem dX12_readTask_56 : decode cX12_readTask 56 = .ok (.return_, 1) := by decide +kernel
theorem dX12_readTask_57 : decode cX12_readTask 57 = .ok (.aload_n 0, 1) := by decide +kernel
theorem dX12_readTask_58 : decode cX12_readTask 58 = .ok (.getfield 48, 3) := by decide +kernel
theorem dX12_readTask_61 : decode cX12_readTask 61 = .ok (.aload_n 0, 1) := by decide +kernel
theorem dX12_readTask_62 : decode cX12_readTask 62 = .ok (.getfield 173, 3) := by decide +kernel
theorem dX12_readTask_65 : decode cX12_readTask 65 = .ok (.lload_n 1, 1) := by decide +kernel
theorem dX12_readTask_66 : decode cX12_readTask 66 = .ok (.lastore, 1) := by decide +kernel
theorem dX12_readTask_67 : decode cX12_readTask 67 = .ok (.aload_n 0, 1) := by decide +kernel
theorem dX12_readTask_68 : decode cX12_readTask 68 = .ok (.dup, 1) := by decide +kernel
theorem dX12_readTask_69 : decode cX12_readTask 69 = .ok (.getfield 173, 3) := by decide +kernel
theorem dX12_readTask_72 : decode cX12_readTask 72 = .ok (.iconst 1, 1) := by decide +kernel
theorem dX12_readTask_73 : decode cX12_readTask 73 = .ok (.iadd, 1) := by decide +kernel
theorem dX12_readTask_74 : decode cX12_readTask 74 = .ok (.putfield 173, 3) := by decide +kernel
theorem dX12_readTask_77 : decode cX12_readTask 77 = .ok (.return_, 1) := by decide +kernel
theorem dX12_leastRule_0 : decode cX12_leastRule 0 = .ok (.iload_n 0, 1) := by decide +kernel
theorem dX12_leastRule_1 : decode cX12_leastRule 1 = .ok (.iconst 5, 1) := by decide +kernel
theorem dX12_leastRule_2 : decode cX12_leastRule 2 = .ok (.if_icmp .ne 7, 3) := by decide +kernel
theorem dX12_leastRule_5 : decode cX12_leastRule 5 = .ok (.iconst 2, 1) := by decide +kernel
theorem dX12_leastRule_6 : decode cX12_leastRule 6 = .ok (.goto 18, 3) := by decide +kernel
theorem dX12_leastRule_9 : decode cX12_leastRule 9 = .ok (.iload_n 0, 1) := by decide +kernel
theorem dX12_leastRule_10 : decode cX12_leastRule 10 = .ok (.iconst 2, 1) := by decide +kernel
theorem dX12_leastRule_11 : decode cX12_leastRule 11 = .ok (.if_icmp .eq 8, 3) := by decide +kernel
theorem dX12_leastRule_14 : decode cX12_leastRule 14 = .ok (.iload_n 0, 1) := by decide +kernel
theorem dX12_leastRule_15 : decode cX12_leastRule 15 = .ok (.iconst 4, 1) := by decide +kernel
theorem dX12_leastRule_16 : decode cX12_leastRule 16 = .ok (.if_icmp .ne 7, 3) := by decide +kernel
theorem dX12_leastRule_19 : decode cX12_leastRule 19 = .ok (.iconst 1, 1) := by decide +kernel
theorem dX12_leastRule_20 : decode cX12_leastRule 20 = .ok (.goto 4, 3) := by decide +kernel
theorem dX12_leastRule_23 : decode cX12_leastRule 23 = .ok (.iconst 0, 1) := by decide +kernel
theorem dX12_leastRule_24 : decode cX12_leastRule 24 = .ok (.ireturn, 1) := by decide +kernel
theorem dX12_mostRule_0 : decode cX12_mostRule 0 = .ok (.iload_n 0, 1) := by decide +kernel
theorem dX12_mostRule_1 : decode cX12_mostRule 1 = .ok (.tableswitch 52 0 5 #[39, 52, 52, 42, 45, 49], 39) := by decide +kernel
theorem dX12_mostRule_40 : decode cX12_mostRule 40 = .ok (.bipush 100, 2) := by decide +kernel
theorem dX12_mostRule_42 : decode cX12_mostRule 42 = .ok (.ireturn, 1) := by decide +kernel
theorem dX12_mostRule_43 : decode cX12_mostRule 43 = .ok (.bipush 9, 2) := by decide +kernel
theorem dX12_mostRule_45 : decode cX12_mostRule 45 = .ok (.ireturn, 1) := by decide +kernel
theorem dX12_mostRule_46 : decode cX12_mostRule 46 = .ok (.sipush 9999, 3) := by decide +kernel
theorem dX12_mostRule_49 : decode cX12_mostRule 49 = .ok (.ireturn, 1) := by decide +kernel
theorem dX12_mostRule_50 : decode cX12_mostRule 50 = .ok (.bipush 16, 2) := by decide +kernel
theorem dX12_mostRule_52 : decode cX12_mostRule 52 = .ok (.ireturn, 1) := by decide +kernel
theorem dX12_mostRule_53 : decode cX12_mostRule 53 = .ok (.bipush 20, 2) := by decide +kernel
theorem dX12_mostRule_55 : decode cX12_mostRule 55 = .ok (.ireturn, 1) := by decide +kernel
theorem dX12_usualRule_0 : decode cX12_usualRule 0 = .ok (.iload_n 0, 1) := by decide +kernel
theorem dX12_usualRule_1 : decode cX12_usualRule 1 = .ok (.tableswitch 48 0 4 #[35, 38, 40, 42, 44], 35) := by decide +kernel
theorem dX12_usualRule_36 : decode cX12_usualRule 36 = .ok (.bipush 25, 2) := by decide +kernel
theorem dX12_usualRule_38 : decode cX12_usualRule 38 = .ok (.ireturn, 1) := by decide +kernel
theorem dX12_usualRule_39 : decode cX12_usualRule 39 = .ok (.iconst 3, 1) := by decide +kernel
theorem dX12_usualRule_40 : decode cX12_usualRule 40 = .ok (.ireturn, 1) := by decide +kernel
theorem dX12_usualRule_41 : decode cX12_usualRule 41 = .ok (.iconst 2, 1) := by decide +kernel
theorem dX12_usualRule_42 : decode cX12_usualRule 42 = .ok (.ireturn, 1) := by decide +kernel
theorem dX12_usualRule_43 : decode cX12_usualRule 43 = .ok (.iconst 0, 1) := by decide +kernel
theorem dX12_usualRule_44 : decode cX12_usualRule 44 = .ok (.ireturn, 1) := by decide +kernel
theorem dX12_usualRule_45 : decode cX12_usualRule 45 = .ok (.sipush 9999, 3) := by decide +kernel
theorem dX12_usualRule_48 : decode cX12_usualRule 48 = .ok (.ireturn, 1) := by decide +kernel
theorem dX12_usualRule_49 : decode cX12_usualRule 49 = .ok (.bipush 8, 2) := by decide +kernel
theorem dX12_usualRule_51 : decode cX12_usualRule 51 = .ok (.ireturn, 1) := by decide +kernel
theorem dX12_readLine_0 : decode cX12_readLine 0 = .ok (.aload_n 0, 1) := by decide +kernel
theorem dX12_readLine_1 : decode cX12_readLine 1 = .ok (.invokevirtual 160, 3) := by decide +kernel
theorem dX12_readLine_4 : decode cX12_readLine 4 = .ok (.aload_n 0, 1) := by decide +kernel
theorem dX12_readLine_5 : decode cX12_readLine 5 = .ok (.getfield 122, 3) := by decide +kernel
theorem dX12_readLine_8 : decode cX12_readLine 8 = .ok (.iconst (-1), 1) := by decide +kernel
theorem dX12_readLine_9 : decode cX12_readLine 9 = .ok (.if_icmp .ne 13, 3) := by decide +kernel
theorem dX12_readLine_12 : decode cX12_readLine 12 = .ok (.aload_n 0, 1) := by decide +kernel
theorem dX12_readLine_13 : decode cX12_readLine 13 = .ok (.getfield 139, 3) := by decide +kernel
theorem dX12_readLine_16 : decode cX12_readLine 16 = .ok (.invokestatic 162, 3) := by decide +kernel
theorem dX12_readLine_19 : decode cX12_readLine 19 = .ok (.goto 4, 3) := by decide +kernel
theorem dX12_readLine_22 : decode cX12_readLine 22 = .ok (.iconst (-1), 1) := by decide +kernel
theorem dX12_readLine_23 : decode cX12_readLine 23 = .ok (.istore_n 2, 1) := by decide +kernel
theorem dX12_readLine_24 : decode cX12_readLine 24 = .ok (.iload_n 2, 1) := by decide +kernel
theorem dX12_readLine_25 : decode cX12_readLine 25 = .ok (.i2l, 1) := by decide +kernel
theorem dX12_readLine_26 : decode cX12_readLine 26 = .ok (.lconst 0, 1) := by decide +kernel
theorem dX12_readLine_27 : decode cX12_readLine 27 = .ok (.ldc2_w 186, 3) := by decide +kernel
theorem dX12_readLine_30 : decode cX12_readLine 30 = .ok (.invokestatic 156, 3) := by decide +kernel
theorem dX12_readLine_33 : decode cX12_readLine 33 = .ok (.ifCond .eq 45, 3) := by decide +kernel
theorem dX12_readLine_36 : decode cX12_readLine 36 = .ok (.iload_n 2, 1) := by decide +kernel
theorem dX12_readLine_37 : decode cX12_readLine 37 = .ok (.ifCond .ne 11, 3) := by decide +kernel
theorem dX12_readLine_40 : decode cX12_readLine 40 = .ok (.aload_n 0, 1) := by decide +kernel
theorem dX12_readLine_41 : decode cX12_readLine 41 = .ok (.getfield 166, 3) := by decide +kernel
theorem dX12_readLine_44 : decode cX12_readLine 44 = .ok (.iconst 3, 1) := by decide +kernel
theorem dX12_readLine_45 : decode cX12_readLine 45 = .ok (.if_icmp .eq 33, 3) := by decide +kernel
theorem dX12_readLine_48 : decode cX12_readLine 48 = .ok (.iload_n 2, 1) := by decide +kernel
theorem dX12_readLine_49 : decode cX12_readLine 49 = .ok (.iconst 2, 1) := by decide +kernel
theorem dX12_readLine_50 : decode cX12_readLine 50 = .ok (.if_icmp .ne 11, 3) := by decide +kernel
theorem dX12_readLine_53 : decode cX12_readLine 53 = .ok (.aload_n 0, 1) := by decide +kernel
theorem dX12_readLine_54 : decode cX12_readLine 54 = .ok (.getfield 173, 3) := by decide +kernel
theorem dX12_readLine_57 : decode cX12_readLine 57 = .ok (.iconst 4, 1) := by decide +kernel
theorem dX12_readLine_58 : decode cX12_readLine 58 = .ok (.if_icmp .eq 20, 3) := by decide +kernel
theorem dX12_readLine_61 : decode cX12_readLine 61 = .ok (.iload_n 2, 1) := by decide +kernel
theorem dX12_readLine_62 : decode cX12_readLine 62 = .ok (.iconst 2, 1) := by decide +kernel
theorem dX12_readLine_63 : decode cX12_readLine 63 = .ok (.if_icmp .le 11, 3) := by decide +kernel
theorem dX12_readLine_66 : decode cX12_readLine 66 = .ok (.iload_n 1, 1) := by decide +kernel
theorem dX12_readLine_67 : decode cX12_readLine 67 = .ok (.iload_n 2, 1) := by decide +kernel
theorem dX12_readLine_68 : decode cX12_readLine 68 = .ok (.invokestatic 188, 3) := by decide +kernel
theorem dX12_readLine_71 : decode cX12_readLine 71 = .ok (.ifCond .ne 7, 3) := by decide +kernel
theorem dX12_readLine_74 : decode cX12_readLine 74 = .ok (.iconst 1, 1) := by decide +kernel
theorem dX12_readLine_75 : decode cX12_readLine 75 = .ok (.goto 4, 3) := by decide +kernel
theorem dX12_readLine_78 : decode cX12_readLine 78 = .ok (.iconst 0, 1) := by decide +kernel
theorem dX12_readLine_79 : decode cX12_readLine 79 = .ok (.istore_n 3, 1) := by decide +kernel
theorem dX12_readLine_80 : decode cX12_readLine 80 = .ok (.aload_n 0, 1) := by decide +kernel
theorem dX12_readLine_81 : decode cX12_readLine 81 = .ok (.getfield 122, 3) := by decide +kernel
theorem dX12_readLine_84 : decode cX12_readLine 84 = .ok (.iconst (-1), 1) := by decide +kernel
theorem dX12_readLine_85 : decode cX12_readLine 85 = .ok (.if_icmp .ne 15, 3) := by decide +kernel
theorem dX12_readLine_88 : decode cX12_readLine 88 = .ok (.iload_n 3, 1) := by decide +kernel
theorem dX12_readLine_89 : decode cX12_readLine 89 = .ok (.ifCond .ne 11, 3) := by decide +kernel
theorem dX12_readLine_92 : decode cX12_readLine 92 = .ok (.aload_n 0, 1) := by decide +kernel
theorem dX12_readLine_93 : decode cX12_readLine 93 = .ok (.aload_n 0, 1) := by decide +kernel
theorem dX12_readLine_94 : decode cX12_readLine 94 = .ok (.getfield 136, 3) := by decide +kernel
theorem dX12_readLine_97 : decode cX12_readLine 97 = .ok (.invokevirtual 147, 3) := by decide +kernel
theorem dX12_readLine_100 : decode cX12_readLine 100 = .ok (.aload_n 0, 1) := by decide +kernel
theorem dX12_readLine_101 : decode cX12_readLine 101 = .ok (.getfield 122, 3) := by decide +kernel
theorem dX12_readLine_104 : decode cX12_readLine 104 = .ok (.iconst (-1), 1) := by decide +kernel
theorem dX12_readLine_105 : decode cX12_readLine 105 = .ok (.if_icmp .eq 5, 3) := by decide +kernel
theorem dX12_readLine_108 : decode cX12_readLine 108 = .ok (.iload_n 1, 1) := by decide +kernel
theorem dX12_readLine_109 : decode cX12_readLine 109 = .ok (.ireturn, 1) := by decide +kernel
theorem dX12_readLine_110 : decode cX12_readLine 110 = .ok (.iload_n 2, 1) := by decide +kernel
theorem dX12_readLine_111 : decode cX12_readLine 111 = .ok (.tableswitch 43 0 2 #[25, 31, 37], 25) := by decide +kernel
theorem dX12_readLine_136 : decode cX12_readLine 136 = .ok (.aload_n 0, 1) := by decide +kernel
theorem dX12_readLine_137 : decode cX12_readLine 137 = .ok (.invokevirtual 192, 3) := by decide +kernel
theorem dX12_readLine_140 : decode cX12_readLine 140 = .ok (.iload_n 1, 1) := by decide +kernel
theorem dX12_readLine_141 : decode cX12_readLine 141 = .ok (.ireturn, 1) := by decide +kernel
theorem dX12_readLine_142 : decode cX12_readLine 142 = .ok (.aload_n 0, 1) := by decide +kernel
theorem dX12_readLine_143 : decode cX12_readLine 143 = .ok (.invokevirtual 195, 3) := by decide +kernel
theorem dX12_readLine_146 : decode cX12_readLine 146 = .ok (.iload_n 1, 1) := by decide +kernel
theorem dX12_readLine_147 : decode cX12_readLine 147 = .ok (.ireturn, 1) := by decide +kernel
theorem dX12_readLine_148 : decode cX12_readLine 148 = .ok (.aload_n 0, 1) := by decide +kernel
theorem dX12_readLine_149 : decode cX12_readLine 149 = .ok (.invokevirtual 198, 3) := by decide +kernel
theorem dX12_readLine_152 : decode cX12_readLine 152 = .ok (.iload_n 1, 1) := by decide +kernel
theorem dX12_readLine_153 : decode cX12_readLine 153 = .ok (.ireturn, 1) := by decide +kernel
theorem dX12_readLine_154 : decode cX12_readLine 154 = .ok (.aload_n 0, 1) := by decide +kernel
theorem dX12_readLine_155 : decode cX12_readLine 155 = .ok (.getfield 13, 3) := by decide +kernel
theorem dX12_readLine_158 : decode cX12_readLine 158 = .ok (.iload_n 2, 1) := by decide +kernel
theorem dX12_readLine_159 : decode cX12_readLine 159 = .ok (.iconst 3, 1) := by decide +kernel
theorem dX12_readLine_160 : decode cX12_readLine 160 = .ok (.isub, 1) := by decide +kernel
theorem dX12_readLine_161 : decode cX12_readLine 161 = .ok (.aload_n 0, 1) := by decide +kernel
theorem dX12_readLine_162 : decode cX12_readLine 162 = .ok (.iload_n 2, 1) := by decide +kernel
theorem dX12_readLine_163 : decode cX12_readLine 163 = .ok (.iconst 3, 1) := by decide +kernel
theorem dX12_readLine_164 : decode cX12_readLine 164 = .ok (.isub, 1) := by decide +kernel
theorem dX12_readLine_165 : decode cX12_readLine 165 = .ok (.invokestatic 201, 3) := by decide +kernel
theorem dX12_readLine_168 : decode cX12_readLine 168 = .ok (.iload_n 2, 1) := by decide +kernel
theorem dX12_readLine_169 : decode cX12_readLine 169 = .ok (.iconst 3, 1) := by decide +kernel
theorem dX12_readLine_170 : decode cX12_readLine 170 = .ok (.isub, 1) := by decide +kernel
theorem dX12_readLine_171 : decode cX12_readLine 171 = .ok (.invokestatic 204, 3) := by decide +kernel
theorem dX12_readLine_174 : decode cX12_readLine 174 = .ok (.invokevirtual 179, 3) := by decide +kernel
theorem dX12_readLine_177 : decode cX12_readLine 177 = .ok (.iastore, 1) := by decide +kernel
theorem dX12_readLine_178 : decode cX12_readLine 178 = .ok (.iload_n 1, 1) := by decide +kernel
theorem dX12_readLine_179 : decode cX12_readLine 179 = .ok (.iconst 1, 1) := by decide +kernel
theorem dX12_readLine_180 : decode cX12_readLine 180 = .ok (.iload_n 2, 1) := by decide +kernel
theorem dX12_readLine_181 : decode cX12_readLine 181 = .ok (.ishl, 1) := by decide +kernel
theorem dX12_readLine_182 : decode cX12_readLine 182 = .ok (.ior, 1) := by decide +kernel
theorem dX12_readLine_183 : decode cX12_readLine 183 = .ok (.ireturn, 1) := by decide +kernel
theorem dX12_goesOn_0 : decode cX12_goesOn 0 = .ok (.aload_n 0, 1) := by decide +kernel
theorem dX12_goesOn_1 : decode cX12_goesOn 1 = .ok (.getfield 122, 3) := by decide +kernel
theorem dX12_goesOn_4 : decode cX12_goesOn 4 = .ok (.iconst (-1), 1) := by decide +kernel
theorem dX12_goesOn_5 : decode cX12_goesOn 5 = .ok (.if_icmp .eq 5, 3) := by decide +kernel
theorem dX12_goesOn_8 : decode cX12_goesOn 8 = .ok (.iconst 0, 1) := by decide +kernel
theorem dX12_goesOn_9 : decode cX12_goesOn 9 = .ok (.ireturn, 1) := by decide +kernel
theorem dX12_goesOn_10 : decode cX12_goesOn 10 = .ok (.aload_n 0, 1) := by decide +kernel
theorem dX12_goesOn_11 : decode cX12_goesOn 11 = .ok (.invokevirtual 133, 3) := by decide +kernel
theorem dX12_goesOn_14 : decode cX12_goesOn 14 = .ok (.istore_n 1, 1) := by decide +kernel
theorem dX12_goesOn_15 : decode cX12_goesOn 15 = .ok (.iload_n 1, 1) := by decide +kernel
theorem dX12_goesOn_16 : decode cX12_goesOn 16 = .ok (.iconst (-1), 1) := by decide +kernel
theorem dX12_goesOn_17 : decode cX12_goesOn 17 = .ok (.if_icmp .eq 17, 3) := by decide +kernel
theorem dX12_goesOn_20 : decode cX12_goesOn 20 = .ok (.iload_n 1, 1) := by decide +kernel
theorem dX12_goesOn_21 : decode cX12_goesOn 21 = .ok (.bipush 59, 2) := by decide +kernel
theorem dX12_goesOn_23 : decode cX12_goesOn 23 = .ok (.if_icmp .eq 11, 3) := by decide +kernel
theorem dX12_goesOn_26 : decode cX12_goesOn 26 = .ok (.aload_n 0, 1) := by decide +kernel
theorem dX12_goesOn_27 : decode cX12_goesOn 27 = .ok (.aload_n 0, 1) := by decide +kernel
theorem dX12_goesOn_28 : decode cX12_goesOn 28 = .ok (.getfield 115, 3) := by decide +kernel
theorem dX12_goesOn_31 : decode cX12_goesOn 31 = .ok (.invokevirtual 147, 3) := by decide +kernel
theorem dX12_goesOn_34 : decode cX12_goesOn 34 = .ok (.iload_n 1, 1) := by decide +kernel
theorem dX12_goesOn_35 : decode cX12_goesOn 35 = .ok (.bipush 59, 2) := by decide +kernel
theorem dX12_goesOn_37 : decode cX12_goesOn 37 = .ok (.if_icmp .eq 5, 3) := by decide +kernel
theorem dX12_goesOn_40 : decode cX12_goesOn 40 = .ok (.iconst 0, 1) := by decide +kernel
theorem dX12_goesOn_41 : decode cX12_goesOn 41 = .ok (.ireturn, 1) := by decide +kernel
theorem dX12_goesOn_42 : decode cX12_goesOn 42 = .ok (.aload_n 0, 1) := by decide +kernel
theorem dX12_goesOn_43 : decode cX12_goesOn 43 = .ok (.dup, 1) := by decide +kernel
theorem dX12_goesOn_44 : decode cX12_goesOn 44 = .ok (.getfield 115, 3) := by decide +kernel
theorem dX12_goesOn_47 : decode cX12_goesOn 47 = .ok (.iconst 1, 1) := by decide +kernel
theorem dX12_goesOn_48 : decode cX12_goesOn 48 = .ok (.iadd, 1) := by decide +kernel
theorem dX12_goesOn_49 : decode cX12_goesOn 49 = .ok (.putfield 115, 3) := by decide +kernel
theorem dX12_goesOn_52 : decode cX12_goesOn 52 = .ok (.iconst 1, 1) := by decide +kernel
theorem dX12_goesOn_53 : decode cX12_goesOn 53 = .ok (.ireturn, 1) := by decide +kernel
theorem dX12_readChip_0 : decode cX12_readChip 0 = .ok (.iconst 0, 1) := by decide +kernel
theorem dX12_readChip_1 : decode cX12_readChip 1 = .ok (.istore_n 1, 1) := by decide +kernel
theorem dX12_readChip_2 : decode cX12_readChip 2 = .ok (.iload_n 1, 1) := by decide +kernel
theorem dX12_readChip_3 : decode cX12_readChip 3 = .ok (.bipush 6, 2) := by decide +kernel
theorem dX12_readChip_5 : decode cX12_readChip 5 = .ok (.if_icmp .ge 19, 3) := by decide +kernel
theorem dX12_readChip_8 : decode cX12_readChip 8 = .ok (.aload_n 0, 1) := by decide +kernel
theorem dX12_readChip_9 : decode cX12_readChip 9 = .ok (.getfield 13, 3) := by decide +kernel
theorem dX12_readChip_12 : decode cX12_readChip 12 = .ok (.iload_n 1, 1) := by decide +kernel
theorem dX12_readChip_13 : decode cX12_readChip 13 = .ok (.iload_n 1, 1) := by decide +kernel
theorem dX12_readChip_14 : decode cX12_readChip 14 = .ok (.invokestatic 207, 3) := by decide +kernel
theorem dX12_readChip_17 : decode cX12_readChip 17 = .ok (.iastore, 1) := by decide +kernel
theorem dX12_readChip_18 : decode cX12_readChip 18 = .ok (.iinc 1 1, 3) := by decide +kernel
theorem dX12_readChip_21 : decode cX12_readChip 21 = .ok (.goto (-19), 3) := by decide +kernel
theorem dX12_readChip_24 : decode cX12_readChip 24 = .ok (.aload_n 0, 1) := by decide +kernel
theorem dX12_readChip_25 : decode cX12_readChip 25 = .ok (.iconst 0, 1) := by decide +kernel
theorem dX12_readChip_26 : decode cX12_readChip 26 = .ok (.putfield 166, 3) := by decide +kernel
theorem dX12_readChip_29 : decode cX12_readChip 29 = .ok (.aload_n 0, 1) := by decide +kernel
theorem dX12_readChip_30 : decode cX12_readChip 30 = .ok (.iconst 0, 1) := by decide +kernel
theorem dX12_readChip_31 : decode cX12_readChip 31 = .ok (.putfield 173, 3) := by decide +kernel
theorem dX12_readChip_34 : decode cX12_readChip 34 = .ok (.aload_n 0, 1) := by decide +kernel
theorem dX12_readChip_35 : decode cX12_readChip 35 = .ok (.iconst 0, 1) := by decide +kernel
theorem dX12_readChip_36 : decode cX12_readChip 36 = .ok (.putfield 183, 3) := by decide +kernel
theorem dX12_readChip_39 : decode cX12_readChip 39 = .ok (.iconst 0, 1) := by decide +kernel
theorem dX12_readChip_40 : decode cX12_readChip 40 = .ok (.istore_n 1, 1) := by decide +kernel
theorem dX12_readChip_41 : decode cX12_readChip 41 = .ok (.iconst 1, 1) := by decide +kernel
theorem dX12_readChip_42 : decode cX12_readChip 42 = .ok (.istore_n 2, 1) := by decide +kernel
theorem dX12_readChip_43 : decode cX12_readChip 43 = .ok (.iload_n 2, 1) := by decide +kernel
theorem dX12_readChip_44 : decode cX12_readChip 44 = .ok (.ifCond .eq 17, 3) := by decide +kernel
theorem dX12_readChip_47 : decode cX12_readChip 47 = .ok (.aload_n 0, 1) := by decide +kernel
theorem dX12_readChip_48 : decode cX12_readChip 48 = .ok (.iload_n 1, 1) := by decide +kernel
theorem dX12_readChip_49 : decode cX12_readChip 49 = .ok (.invokevirtual 210, 3) := by decide +kernel
theorem dX12_readChip_52 : decode cX12_readChip 52 = .ok (.istore_n 1, 1) := by decide +kernel
theorem dX12_readChip_53 : decode cX12_readChip 53 = .ok (.aload_n 0, 1) := by decide +kernel
theorem dX12_readChip_54 : decode cX12_readChip 54 = .ok (.invokevirtual 213, 3) := by decide +kernel
theorem dX12_readChip_57 : decode cX12_readChip 57 = .ok (.istore_n 2, 1) := by decide +kernel
theorem dX12_readChip_58 : decode cX12_readChip 58 = .ok (.goto (-15), 3) := by decide +kernel
theorem dX12_readChip_61 : decode cX12_readChip 61 = .ok (.aload_n 0, 1) := by decide +kernel
theorem dX12_readChip_62 : decode cX12_readChip 62 = .ok (.getfield 166, 3) := by decide +kernel
theorem dX12_readChip_65 : decode cX12_readChip 65 = .ok (.ifCond .le 7, 3) := by decide +kernel
theorem dX12_readChip_68 : decode cX12_readChip 68 = .ok (.iconst 1, 1) := by decide +kernel
theorem dX12_readChip_69 : decode cX12_readChip 69 = .ok (.goto 4, 3) := by decide +kernel
theorem dX12_readChip_72 : decode cX12_readChip 72 = .ok (.iconst 0, 1) := by decide +kernel
theorem dX12_readChip_73 : decode cX12_readChip 73 = .ok (.istore_n 3, 1) := by decide +kernel
theorem dX12_readChip_74 : decode cX12_readChip 74 = .ok (.iconst 0, 1) := by decide +kernel
theorem dX12_readChip_75 : decode cX12_readChip 75 = .ok (.istore 4, 2) := by decide +kernel
theorem dX12_readChip_77 : decode cX12_readChip 77 = .ok (.iload 4, 2) := by decide +kernel
theorem dX12_readChip_79 : decode cX12_readChip 79 = .ok (.aload_n 0, 1) := by decide +kernel
theorem dX12_readChip_80 : decode cX12_readChip 80 = .ok (.getfield 166, 3) := by decide +kernel
theorem dX12_readChip_83 : decode cX12_readChip 83 = .ok (.if_icmp .ge 33, 3) := by decide +kernel
theorem dX12_readChip_86 : decode cX12_readChip 86 = .ok (.iload_n 3, 1) := by decide +kernel
theorem dX12_readChip_87 : decode cX12_readChip 87 = .ok (.ifCond .eq 21, 3) := by decide +kernel
theorem dX12_readChip_90 : decode cX12_readChip 90 = .ok (.aload_n 0, 1) := by decide +kernel
theorem dX12_readChip_91 : decode cX12_readChip 91 = .ok (.getfield 20, 3) := by decide +kernel
theorem dX12_readChip_94 : decode cX12_readChip 94 = .ok (.iconst 4, 1) := by decide +kernel
theorem dX12_readChip_95 : decode cX12_readChip 95 = .ok (.iload 4, 2) := by decide +kernel
theorem dX12_readChip_97 : decode cX12_readChip 97 = .ok (.imul, 1) := by decide +kernel
theorem dX12_readChip_98 : decode cX12_readChip 98 = .ok (.iconst 3, 1) := by decide +kernel
theorem dX12_readChip_99 : decode cX12_readChip 99 = .ok (.iadd, 1) := by decide +kernel
theorem dX12_readChip_100 : decode cX12_readChip 100 = .ok (.iaload, 1) := by decide +kernel
theorem dX12_readChip_101 : decode cX12_readChip 101 = .ok (.ifCond .le 7, 3) := by decide +kernel
theorem dX12_readChip_104 : decode cX12_readChip 104 = .ok (.iconst 1, 1) := by decide +kernel
theorem dX12_readChip_105 : decode cX12_readChip 105 = .ok (.goto 4, 3) := by decide +kernel
theorem dX12_readChip_108 : decode cX12_readChip 108 = .ok (.iconst 0, 1) := by decide +kernel
theorem dX12_readChip_109 : decode cX12_readChip 109 = .ok (.istore_n 3, 1) := by decide +kernel
theorem dX12_readChip_110 : decode cX12_readChip 110 = .ok (.iinc 4 1, 3) := by decide +kernel
theorem dX12_readChip_113 : decode cX12_readChip 113 = .ok (.goto (-36), 3) := by decide +kernel
theorem dX12_readChip_116 : decode cX12_readChip 116 = .ok (.iload_n 3, 1) := by decide +kernel
theorem dX12_readChip_117 : decode cX12_readChip 117 = .ok (.ifCond .ne 11, 3) := by decide +kernel
theorem dX12_readChip_120 : decode cX12_readChip 120 = .ok (.aload_n 0, 1) := by decide +kernel
theorem dX12_readChip_121 : decode cX12_readChip 121 = .ok (.aload_n 0, 1) := by decide +kernel
theorem dX12_readChip_122 : decode cX12_readChip 122 = .ok (.getfield 115, 3) := by decide +kernel
theorem dX12_readChip_125 : decode cX12_readChip 125 = .ok (.invokevirtual 147, 3) := by decide +kernel
theorem dX12_readChip_128 : decode cX12_readChip 128 = .ok (.return_, 1) := by decide +kernel
theorem dX12_readStep_0 : decode cX12_readStep 0 = .ok (.iconst 4, 1) := by decide +kernel
theorem dX12_readStep_1 : decode cX12_readStep 1 = .ok (.bipush 48, 2) := by decide +kernel
theorem dX12_readStep_3 : decode cX12_readStep 3 = .ok (.iload_n 1, 1) := by decide +kernel
theorem dX12_readStep_4 : decode cX12_readStep 4 = .ok (.iadd, 1) := by decide +kernel
theorem dX12_readStep_5 : decode cX12_readStep 5 = .ok (.imul, 1) := by decide +kernel
theorem dX12_readStep_6 : decode cX12_readStep 6 = .ok (.istore_n 2, 1) := by decide +kernel
theorem dX12_readStep_7 : decode cX12_readStep 7 = .ok (.iconst 1, 1) := by decide +kernel
theorem dX12_readStep_8 : decode cX12_readStep 8 = .ok (.istore_n 3, 1) := by decide +kernel
theorem dX12_readStep_9 : decode cX12_readStep 9 = .ok (.iload_n 3, 1) := by decide +kernel
theorem dX12_readStep_10 : decode cX12_readStep 10 = .ok (.iconst 4, 1) := by decide +kernel
theorem dX12_readStep_11 : decode cX12_readStep 11 = .ok (.if_icmp .ge 18, 3) := by decide +kernel
theorem dX12_readStep_14 : decode cX12_readStep 14 = .ok (.aload_n 0, 1) := by decide +kernel
theorem dX12_readStep_15 : decode cX12_readStep 15 = .ok (.getfield 54, 3) := by decide +kernel
theorem dX12_readStep_18 : decode cX12_readStep 18 = .ok (.iload_n 2, 1) := by decide +kernel
theorem dX12_readStep_19 : decode cX12_readStep 19 = .ok (.iload_n 3, 1) := by decide +kernel
theorem dX12_readStep_20 : decode cX12_readStep 20 = .ok (.iadd, 1) := by decide +kernel
theorem dX12_readStep_21 : decode cX12_readStep 21 = .ok (.iconst (-1), 1) := by decide +kernel
theorem dX12_readStep_22 : decode cX12_readStep 22 = .ok (.iastore, 1) := by decide +kernel
theorem dX12_readStep_23 : decode cX12_readStep 23 = .ok (.iinc 3 1, 3) := by decide +kernel
theorem dX12_readStep_26 : decode cX12_readStep 26 = .ok (.goto (-17), 3) := by decide +kernel
theorem dX12_readStep_29 : decode cX12_readStep 29 = .ok (.aload_n 0, 1) := by decide +kernel
theorem dX12_readStep_30 : decode cX12_readStep 30 = .ok (.invokevirtual 160, 3) := by decide +kernel
theorem dX12_readStep_33 : decode cX12_readStep 33 = .ok (.aload_n 0, 1) := by decide +kernel
theorem dX12_readStep_34 : decode cX12_readStep 34 = .ok (.getfield 122, 3) := by decide +kernel
theorem dX12_readStep_37 : decode cX12_readStep 37 = .ok (.iconst (-1), 1) := by decide +kernel
theorem dX12_readStep_38 : decode cX12_readStep 38 = .ok (.if_icmp .ne 16, 3) := by decide +kernel
theorem dX12_readStep_41 : decode cX12_readStep 41 = .ok (.aload_n 0, 1) := by decide +kernel
theorem dX12_readStep_42 : decode cX12_readStep 42 = .ok (.getfield 139, 3) := by decide +kernel
theorem dX12_readStep_45 : decode cX12_readStep 45 = .ok (.invokestatic 162, 3) := by decide +kernel
theorem dX12_readStep_48 : decode cX12_readStep 48 = .ok (.bipush 9, 2) := by decide +kernel
theorem dX12_readStep_50 : decode cX12_readStep 50 = .ok (.isub, 1) := by decide +kernel
theorem dX12_readStep_51 : decode cX12_readStep 51 = .ok (.goto 4, 3) := by decide +kernel
theorem dX12_readStep_54 : decode cX12_readStep 54 = .ok (.iconst (-1), 1) := by decide +kernel
theorem dX12_readStep_55 : decode cX12_readStep 55 = .ok (.istore_n 3, 1) := by decide +kernel
theorem dX12_readStep_56 : decode cX12_readStep 56 = .ok (.aload_n 0, 1) := by decide +kernel
theorem dX12_readStep_57 : decode cX12_readStep 57 = .ok (.getfield 122, 3) := by decide +kernel
theorem dX12_readStep_60 : decode cX12_readStep 60 = .ok (.iconst (-1), 1) := by decide +kernel
theorem dX12_readStep_61 : decode cX12_readStep 61 = .ok (.if_icmp .ne 15, 3) := by decide +kernel
theorem dX12_readStep_64 : decode cX12_readStep 64 = .ok (.iload_n 3, 1) := by decide +kernel
theorem dX12_readStep_65 : decode cX12_readStep 65 = .ok (.ifCond .ge 11, 3) := by decide +kernel
theorem dX12_readStep_68 : decode cX12_readStep 68 = .ok (.aload_n 0, 1) := by decide +kernel
theorem dX12_readStep_69 : decode cX12_readStep 69 = .ok (.aload_n 0, 1) := by decide +kernel
theorem dX12_readStep_70 : decode cX12_readStep 70 = .ok (.getfield 136, 3) := by decide +kernel
theorem dX12_readStep_73 : decode cX12_readStep 73 = .ok (.invokevirtual 147, 3) := by decide +kernel
theorem dX12_readStep_76 : decode cX12_readStep 76 = .ok (.aload_n 0, 1) := by decide +kernel
theorem dX12_readStep_77 : decode cX12_readStep 77 = .ok (.getfield 122, 3) := by decide +kernel
theorem dX12_readStep_80 : decode cX12_readStep 80 = .ok (.iconst (-1), 1) := by decide +kernel
theorem dX12_readStep_81 : decode cX12_readStep 81 = .ok (.if_icmp .eq 4, 3) := by decide +kernel
theorem dX12_readStep_84 : decode cX12_readStep 84 = .ok (.return_, 1) := by decide +kernel
theorem dX12_readStep_85 : decode cX12_readStep 85 = .ok (.aload_n 0, 1) := by decide +kernel
theorem dX12_readStep_86 : decode cX12_readStep 86 = .ok (.getfield 54, 3) := by decide +kernel
theorem dX12_readStep_89 : decode cX12_readStep 89 = .ok (.iload_n 2, 1) := by decide +kernel
theorem dX12_readStep_90 : decode cX12_readStep 90 = .ok (.iload_n 3, 1) := by decide +kernel
theorem dX12_readStep_91 : decode cX12_readStep 91 = .ok (.iastore, 1) := by decide +kernel
theorem dX12_readStep_92 : decode cX12_readStep 92 = .ok (.iload_n 3, 1) := by decide +kernel
theorem dX12_readStep_93 : decode cX12_readStep 93 = .ok (.iconst 2, 1) := by decide +kernel
theorem dX12_readStep_94 : decode cX12_readStep 94 = .ok (.if_icmp .eq 8, 3) := by decide +kernel
theorem dX12_readStep_97 : decode cX12_readStep 97 = .ok (.iload_n 3, 1) := by decide +kernel
theorem dX12_readStep_98 : decode cX12_readStep 98 = .ok (.iconst 3, 1) := by decide +kernel
theorem dX12_readStep_99 : decode cX12_readStep 99 = .ok (.if_icmp .ne 20, 3) := by decide +kernel
theorem dX12_readStep_102 : decode cX12_readStep 102 = .ok (.aload_n 0, 1) := by decide +kernel
theorem dX12_readStep_103 : decode cX12_readStep 103 = .ok (.invokevirtual 160, 3) := by decide +kernel
theorem dX12_readStep_106 : decode cX12_readStep 106 = .ok (.aload_n 0, 1) := by decide +kernel
theorem dX12_readStep_107 : decode cX12_readStep 107 = .ok (.getfield 60, 3) := by decide +kernel
theorem dX12_readStep_110 : decode cX12_readStep 110 = .ok (.bipush 48, 2) := by decide +kernel
theorem dX12_readStep_112 : decode cX12_readStep 112 = .ok (.iload_n 1, 1) := by decide +kernel
theorem dX12_readStep_113 : decode cX12_readStep 113 = .ok (.iadd, 1) := by decide +kernel
theorem dX12_readStep_114 : decode cX12_readStep 114 = .ok (.aload_n 0, 1) := by decide +kernel
theorem dX12_readStep_115 : decode cX12_readStep 115 = .ok (.getfield 139, 3) := by decide +kernel
theorem dX12_readStep_118 : decode cX12_readStep 118 = .ok (.lastore, 1) := by decide +kernel
theorem dX12_readStep_119 : decode cX12_readStep 119 = .ok (.iload_n 3, 1) := by decide +kernel
theorem dX12_readStep_120 : decode cX12_readStep 120 = .ok (.bipush 6, 2) := by decide +kernel
theorem dX12_readStep_122 : decode cX12_readStep 122 = .ok (.if_icmp .ne 7, 3) := by decide +kernel
theorem dX12_readStep_125 : decode cX12_readStep 125 = .ok (.iconst 0, 1) := by decide +kernel
theorem dX12_readStep_126 : decode cX12_readStep 126 = .ok (.goto 22, 3) := by decide +kernel
theorem dX12_readStep_129 : decode cX12_readStep 129 = .ok (.iload_n 3, 1) := by decide +kernel
theorem dX12_readStep_130 : decode cX12_readStep 130 = .ok (.iconst 1, 1) := by decide +kernel
theorem dX12_readStep_131 : decode cX12_readStep 131 = .ok (.if_icmp .ne 7, 3) := by decide +kernel
theorem dX12_readStep_134 : decode cX12_readStep 134 = .ok (.iconst 2, 1) := by decide +kernel
theorem dX12_readStep_135 : decode cX12_readStep 135 = .ok (.goto 13, 3) := by decide +kernel
theorem dX12_readStep_138 : decode cX12_readStep 138 = .ok (.iload_n 3, 1) := by decide +kernel
theorem dX12_readStep_139 : decode cX12_readStep 139 = .ok (.iconst 2, 1) := by decide +kernel
theorem dX12_readStep_140 : decode cX12_readStep 140 = .ok (.if_icmp .ne 7, 3) := by decide +kernel
theorem dX12_readStep_143 : decode cX12_readStep 143 = .ok (.iconst 3, 1) := by decide +kernel
theorem dX12_readStep_144 : decode cX12_readStep 144 = .ok (.goto 4, 3) := by decide +kernel
theorem dX12_readStep_147 : decode cX12_readStep 147 = .ok (.iconst 1, 1) := by decide +kernel
theorem dX12_readStep_148 : decode cX12_readStep 148 = .ok (.istore 4, 2) := by decide +kernel
theorem dX12_readStep_150 : decode cX12_readStep 150 = .ok (.iconst 1, 1) := by decide +kernel
theorem dX12_readStep_151 : decode cX12_readStep 151 = .ok (.istore 5, 2) := by decide +kernel
theorem dX12_readStep_153 : decode cX12_readStep 153 = .ok (.iload 5, 2) := by decide +kernel
theorem dX12_readStep_155 : decode cX12_readStep 155 = .ok (.iload 4, 2) := by decide +kernel
theorem dX12_readStep_157 : decode cX12_readStep 157 = .ok (.if_icmp .gt 39, 3) := by decide +kernel
theorem dX12_readStep_160 : decode cX12_readStep 160 = .ok (.aload_n 0, 1) := by decide +kernel
theorem dX12_readStep_161 : decode cX12_readStep 161 = .ok (.getfield 54, 3) := by decide +kernel
theorem dX12_readStep_164 : decode cX12_readStep 164 = .ok (.iload_n 2, 1) := by decide +kernel
theorem dX12_readStep_165 : decode cX12_readStep 165 = .ok (.iload 5, 2) := by decide +kernel
theorem dX12_readStep_167 : decode cX12_readStep 167 = .ok (.iadd, 1) := by decide +kernel
theorem dX12_readStep_168 : decode cX12_readStep 168 = .ok (.iload_n 3, 1) := by decide +kernel
theorem dX12_readStep_169 : decode cX12_readStep 169 = .ok (.ifCond .ne 13, 3) := by decide +kernel
theorem dX12_readStep_172 : decode cX12_readStep 172 = .ok (.aload_n 0, 1) := by decide +kernel
theorem dX12_readStep_173 : decode cX12_readStep 173 = .ok (.iconst 1, 1) := by decide +kernel
theorem dX12_readStep_174 : decode cX12_readStep 174 = .ok (.bipush 60, 2) := by decide +kernel
theorem dX12_readStep_176 : decode cX12_readStep 176 = .ok (.invokevirtual 179, 3) := by decide +kernel
theorem dX12_readStep_179 : decode cX12_readStep 179 = .ok (.goto 10, 3) := by decide +kernel
theorem dX12_readStep_182 : decode cX12_readStep 182 = .ok (.aload_n 0, 1) := by decide +kernel
theorem dX12_readStep_183 : decode cX12_readStep 183 = .ok (.iconst 0, 1) := by decide +kernel
theorem dX12_readStep_184 : decode cX12_readStep 184 = .ok (.bipush 9, 2) := by decide +kernel
theorem dX12_readStep_186 : decode cX12_readStep 186 = .ok (.invokevirtual 179, 3) := by decide +kernel
theorem dX12_readStep_189 : decode cX12_readStep 189 = .ok (.iastore, 1) := by decide +kernel
theorem dX12_readStep_190 : decode cX12_readStep 190 = .ok (.iinc 5 1, 3) := by decide +kernel
theorem dX12_readStep_193 : decode cX12_readStep 193 = .ok (.goto (-40), 3) := by decide +kernel
theorem dX12_readStep_196 : decode cX12_readStep 196 = .ok (.return_, 1) := by decide +kernel
theorem dX12_readScript_0 : decode cX12_readScript 0 = .ok (.iconst 0, 1) := by decide +kernel
theorem dX12_readScript_1 : decode cX12_readScript 1 = .ok (.istore_n 1, 1) := by decide +kernel
theorem dX12_readScript_2 : decode cX12_readScript 2 = .ok (.iconst 1, 1) := by decide +kernel
theorem dX12_readScript_3 : decode cX12_readScript 3 = .ok (.istore_n 2, 1) := by decide +kernel
theorem dX12_readScript_4 : decode cX12_readScript 4 = .ok (.iload_n 2, 1) := by decide +kernel
theorem dX12_readScript_5 : decode cX12_readScript 5 = .ok (.ifCond .eq 52, 3) := by decide +kernel
theorem dX12_readScript_8 : decode cX12_readScript 8 = .ok (.aload_n 0, 1) := by decide +kernel
theorem dX12_readScript_9 : decode cX12_readScript 9 = .ok (.iload_n 1, 1) := by decide +kernel
theorem dX12_readScript_10 : decode cX12_readScript 10 = .ok (.invokevirtual 216, 3) := by decide +kernel
theorem dX12_readScript_13 : decode cX12_readScript 13 = .ok (.aload_n 0, 1) := by decide +kernel
theorem dX12_readScript_14 : decode cX12_readScript 14 = .ok (.getfield 122, 3) := by decide +kernel
theorem dX12_readScript_17 : decode cX12_readScript 17 = .ok (.iconst (-1), 1) := by decide +kernel
theorem dX12_readScript_18 : decode cX12_readScript 18 = .ok (.if_icmp .eq 4, 3) := by decide +kernel
theorem dX12_readScript_21 : decode cX12_readScript 21 = .ok (.return_, 1) := by decide +kernel
theorem dX12_readScript_22 : decode cX12_readScript 22 = .ok (.iinc 1 1, 3) := by decide +kernel
theorem dX12_readScript_25 : decode cX12_readScript 25 = .ok (.aload_n 0, 1) := by decide +kernel
theorem dX12_readScript_26 : decode cX12_readScript 26 = .ok (.invokevirtual 133, 3) := by decide +kernel
theorem dX12_readScript_29 : decode cX12_readScript 29 = .ok (.bipush 59, 2) := by decide +kernel
theorem dX12_readScript_31 : decode cX12_readScript 31 = .ok (.if_icmp .ne 18, 3) := by decide +kernel
theorem dX12_readScript_34 : decode cX12_readScript 34 = .ok (.iload_n 1, 1) := by decide +kernel
theorem dX12_readScript_35 : decode cX12_readScript 35 = .ok (.bipush 12, 2) := by decide +kernel
theorem dX12_readScript_37 : decode cX12_readScript 37 = .ok (.if_icmp .ne 12, 3) := by decide +kernel
theorem dX12_readScript_40 : decode cX12_readScript 40 = .ok (.aload_n 0, 1) := by decide +kernel
theorem dX12_readScript_41 : decode cX12_readScript 41 = .ok (.aload_n 0, 1) := by decide +kernel
theorem dX12_readScript_42 : decode cX12_readScript 42 = .ok (.getfield 115, 3) := by decide +kernel
theorem dX12_readScript_45 : decode cX12_readScript 45 = .ok (.invokevirtual 147, 3) := by decide +kernel
theorem dX12_readScript_48 : decode cX12_readScript 48 = .ok (.return_, 1) := by decide +kernel
theorem dX12_readScript_49 : decode cX12_readScript 49 = .ok (.aload_n 0, 1) := by decide +kernel
theorem dX12_readScript_50 : decode cX12_readScript 50 = .ok (.invokevirtual 213, 3) := by decide +kernel
theorem dX12_readScript_53 : decode cX12_readScript 53 = .ok (.istore_n 2, 1) := by decide +kernel
theorem dX12_readScript_54 : decode cX12_readScript 54 = .ok (.goto (-50), 3) := by decide +kernel
theorem dX12_readScript_57 : decode cX12_readScript 57 = .ok (.aload_n 0, 1) := by decide +kernel
theorem dX12_readScript_58 : decode cX12_readScript 58 = .ok (.getfield 57, 3) := by decide +kernel
theorem dX12_readScript_61 : decode cX12_readScript 61 = .ok (.iconst 4, 1) := by decide +kernel
theorem dX12_readScript_62 : decode cX12_readScript 62 = .ok (.iload_n 1, 1) := by decide +kernel
theorem dX12_readScript_63 : decode cX12_readScript 63 = .ok (.iastore, 1) := by decide +kernel
theorem dX12_readScript_64 : decode cX12_readScript 64 = .ok (.return_, 1) := by decide +kernel
theorem dX12_readAsker_0 : decode cX12_readAsker 0 = .ok (.aload_n 0, 1) := by decide +kernel
theorem dX12_readAsker_1 : decode cX12_readAsker 1 = .ok (.invokevirtual 160, 3) := by decide +kernel
theorem dX12_readAsker_4 : decode cX12_readAsker 4 = .ok (.aload_n 0, 1) := by decide +kernel
theorem dX12_readAsker_5 : decode cX12_readAsker 5 = .ok (.getfield 122, 3) := by decide +kernel
theorem dX12_readAsker_8 : decode cX12_readAsker 8 = .ok (.iconst (-1), 1) := by decide +kernel
theorem dX12_readAsker_9 : decode cX12_readAsker 9 = .ok (.if_icmp .ne 19, 3) := by decide +kernel
theorem dX12_readAsker_12 : decode cX12_readAsker 12 = .ok (.aload_n 0, 1) := by decide +kernel
theorem dX12_readAsker_13 : decode cX12_readAsker 13 = .ok (.invokevirtual 133, 3) := by decide +kernel
theorem dX12_readAsker_16 : decode cX12_readAsker 16 = .ok (.iconst (-1), 1) := by decide +kernel
theorem dX12_readAsker_17 : decode cX12_readAsker 17 = .ok (.if_icmp .eq 11, 3) := by decide +kernel
theorem dX12_readAsker_20 : decode cX12_readAsker 20 = .ok (.aload_n 0, 1) := by decide +kernel
theorem dX12_readAsker_21 : decode cX12_readAsker 21 = .ok (.aload_n 0, 1) := by decide +kernel
theorem dX12_readAsker_22 : decode cX12_readAsker 22 = .ok (.getfield 115, 3) := by decide +kernel
theorem dX12_readAsker_25 : decode cX12_readAsker 25 = .ok (.invokevirtual 147, 3) := by decide +kernel
theorem dX12_readAsker_28 : decode cX12_readAsker 28 = .ok (.return_, 1) := by decide +kernel
theorem dX12_fault_0 : decode cX12_fault 0 = .ok (.aload_n 0, 1) := by decide +kernel
theorem dX12_fault_1 : decode cX12_fault 1 = .ok (.iconst 0, 1) := by decide +kernel
theorem dX12_fault_2 : decode cX12_fault 2 = .ok (.putfield 101, 3) := by decide +kernel
theorem dX12_fault_5 : decode cX12_fault 5 = .ok (.iload_n 1, 1) := by decide +kernel
theorem dX12_fault_6 : decode cX12_fault 6 = .ok (.i2l, 1) := by decide +kernel
theorem dX12_fault_7 : decode cX12_fault 7 = .ok (.lconst 0, 1) := by decide +kernel
theorem dX12_fault_8 : decode cX12_fault 8 = .ok (.ldc2_w 219, 3) := by decide +kernel
theorem dX12_fault_11 : decode cX12_fault 11 = .ok (.invokestatic 156, 3) := by decide +kernel
theorem dX12_fault_14 : decode cX12_fault 14 = .ok (.ifCond .ne 6, 3) := by decide +kernel
theorem dX12_fault_17 : decode cX12_fault 17 = .ok (.bipush (-2), 2) := by decide +kernel
theorem dX12_fault_19 : decode cX12_fault 19 = .ok (.ireturn, 1) := by decide +kernel
theorem dX12_fault_20 : decode cX12_fault 20 = .ok (.aload_n 0, 1) := by decide +kernel
theorem dX12_fault_21 : decode cX12_fault 21 = .ok (.iconst 0, 1) := by decide +kernel
theorem dX12_fault_22 : decode cX12_fault 22 = .ok (.putfield 115, 3) := by decide +kernel
theorem dX12_fault_25 : decode cX12_fault 25 = .ok (.aload_n 0, 1) := by decide +kernel
theorem dX12_fault_26 : decode cX12_fault 26 = .ok (.iconst (-1), 1) := by decide +kernel
theorem dX12_fault_27 : decode cX12_fault 27 = .ok (.putfield 122, 3) := by decide +kernel
theorem dX12_fault_30 : decode cX12_fault 30 = .ok (.iload_n 1, 1) := by decide +kernel
theorem dX12_fault_31 : decode cX12_fault 31 = .ok (.ifCond .ne 10, 3) := by decide +kernel
theorem dX12_fault_34 : decode cX12_fault 34 = .ok (.aload_n 0, 1) := by decide +kernel
theorem dX12_fault_35 : decode cX12_fault 35 = .ok (.invokevirtual 221, 3) := by decide +kernel
theorem dX12_fault_38 : decode cX12_fault 38 = .ok (.goto 19, 3) := by decide +kernel
theorem dX12_fault_41 : decode cX12_fault 41 = .ok (.iload_n 1, 1) := by decide +kernel
theorem dX12_fault_42 : decode cX12_fault 42 = .ok (.iconst 1, 1) := by decide +kernel
theorem dX12_fault_43 : decode cX12_fault 43 = .ok (.if_icmp .ne 10, 3) := by decide +kernel
theorem dX12_fault_46 : decode cX12_fault 46 = .ok (.aload_n 0, 1) := by decide +kernel
theorem dX12_fault_47 : decode cX12_fault 47 = .ok (.invokevirtual 224, 3) := by decide +kernel
theorem dX12_fault_50 : decode cX12_fault 50 = .ok (.goto 7, 3) := by decide +kernel
theorem dX12_fault_53 : decode cX12_fault 53 = .ok (.aload_n 0, 1) := by decide +kernel
theorem dX12_fault_54 : decode cX12_fault 54 = .ok (.invokevirtual 227, 3) := by decide +kernel
theorem dX12_fault_57 : decode cX12_fault 57 = .ok (.aload_n 0, 1) := by decide +kernel
theorem dX12_fault_58 : decode cX12_fault 58 = .ok (.getfield 122, 3) := by decide +kernel
theorem dX12_fault_61 : decode cX12_fault 61 = .ok (.ireturn, 1) := by decide +kernel
theorem dX12_copyAll_0 : decode cX12_copyAll 0 = .ok (.iconst 0, 1) := by decide +kernel
theorem dX12_copyAll_1 : decode cX12_copyAll 1 = .ok (.istore_n 2, 1) := by decide +kernel
theorem dX12_copyAll_2 : decode cX12_copyAll 2 = .ok (.iload_n 2, 1) := by decide +kernel
theorem dX12_copyAll_3 : decode cX12_copyAll 3 = .ok (.aload_n 0, 1) := by decide +kernel
theorem dX12_copyAll_4 : decode cX12_copyAll 4 = .ok (.arraylength, 1) := by decide +kernel
theorem dX12_copyAll_5 : decode cX12_copyAll 5 = .ok (.if_icmp .ge 15, 3) := by decide +kernel
theorem dX12_copyAll_8 : decode cX12_copyAll 8 = .ok (.aload_n 1, 1) := by decide +kernel
theorem dX12_copyAll_9 : decode cX12_copyAll 9 = .ok (.iload_n 2, 1) := by decide +kernel
theorem dX12_copyAll_10 : decode cX12_copyAll 10 = .ok (.aload_n 0, 1) := by decide +kernel
theorem dX12_copyAll_11 : decode cX12_copyAll 11 = .ok (.iload_n 2, 1) := by decide +kernel
theorem dX12_copyAll_12 : decode cX12_copyAll 12 = .ok (.iaload, 1) := by decide +kernel
theorem dX12_copyAll_13 : decode cX12_copyAll 13 = .ok (.iastore, 1) := by decide +kernel
theorem dX12_copyAll_14 : decode cX12_copyAll 14 = .ok (.iinc 2 1, 3) := by decide +kernel
theorem dX12_copyAll_17 : decode cX12_copyAll 17 = .ok (.goto (-15), 3) := by decide +kernel
theorem dX12_copyAll_20 : decode cX12_copyAll 20 = .ok (.return_, 1) := by decide +kernel
theorem dX12_tells_0 : decode cX12_tells 0 = .ok (.aload_n 0, 1) := by decide +kernel
theorem dX12_tells_1 : decode cX12_tells 1 = .ok (.getfield 13, 3) := by decide +kernel
theorem dX12_tells_4 : decode cX12_tells 4 = .ok (.aload_n 0, 1) := by decide +kernel
theorem dX12_tells_5 : decode cX12_tells 5 = .ok (.getfield 17, 3) := by decide +kernel
theorem dX12_tells_8 : decode cX12_tells 8 = .ok (.invokestatic 230, 3) := by decide +kernel
theorem dX12_tells_11 : decode cX12_tells 11 = .ok (.aload_n 0, 1) := by decide +kernel
theorem dX12_tells_12 : decode cX12_tells 12 = .ok (.getfield 20, 3) := by decide +kernel
theorem dX12_tells_15 : decode cX12_tells 15 = .ok (.aload_n 0, 1) := by decide +kernel
theorem dX12_tells_16 : decode cX12_tells 16 = .ok (.getfield 23, 3) := by decide +kernel
theorem dX12_tells_19 : decode cX12_tells 19 = .ok (.invokestatic 230, 3) := by decide +kernel
theorem dX12_tells_22 : decode cX12_tells 22 = .ok (.aload_n 0, 1) := by decide +kernel
theorem dX12_tells_23 : decode cX12_tells 23 = .ok (.getfield 26, 3) := by decide +kernel
theorem dX12_tells_26 : decode cX12_tells 26 = .ok (.aload_n 0, 1) := by decide +kernel
theorem dX12_tells_27 : decode cX12_tells 27 = .ok (.getfield 29, 3) := by decide +kernel
theorem dX12_tells_30 : decode cX12_tells 30 = .ok (.invokestatic 230, 3) := by decide +kernel
theorem dX12_tells_33 : decode cX12_tells 33 = .ok (.aload_n 0, 1) := by decide +kernel
theorem dX12_tells_34 : decode cX12_tells 34 = .ok (.getfield 32, 3) := by decide +kernel
theorem dX12_tells_37 : decode cX12_tells 37 = .ok (.aload_n 0, 1) := by decide +kernel
theorem dX12_tells_38 : decode cX12_tells 38 = .ok (.getfield 35, 3) := by decide +kernel
theorem dX12_tells_41 : decode cX12_tells 41 = .ok (.invokestatic 230, 3) := by decide +kernel
theorem dX12_tells_44 : decode cX12_tells 44 = .ok (.iconst 0, 1) := by decide +kernel
theorem dX12_tells_45 : decode cX12_tells 45 = .ok (.istore_n 1, 1) := by decide +kernel
theorem dX12_tells_46 : decode cX12_tells 46 = .ok (.iload_n 1, 1) := by decide +kernel
theorem dX12_tells_47 : decode cX12_tells 47 = .ok (.iconst 3, 1) := by decide +kernel
theorem dX12_tells_48 : decode cX12_tells 48 = .ok (.if_icmp .ge 21, 3) := by decide +kernel
theorem dX12_tells_51 : decode cX12_tells 51 = .ok (.aload_n 0, 1) := by decide +kernel
theorem dX12_tells_52 : decode cX12_tells 52 = .ok (.getfield 45, 3) := by decide +kernel
theorem dX12_tells_55 : decode cX12_tells 55 = .ok (.iload_n 1, 1) := by decide +kernel
theorem dX12_tells_56 : decode cX12_tells 56 = .ok (.aload_n 0, 1) := by decide +kernel
theorem dX12_tells_57 : decode cX12_tells 57 = .ok (.getfield 41, 3) := by decide +kernel
theorem dX12_tells_60 : decode cX12_tells 60 = .ok (.iload_n 1, 1) := by decide +kernel
theorem dX12_tells_61 : decode cX12_tells 61 = .ok (.laload, 1) := by decide +kernel
theorem dX12_tells_62 : decode cX12_tells 62 = .ok (.lastore, 1) := by decide +kernel
theorem dX12_tells_63 : decode cX12_tells 63 = .ok (.iinc 1 1, 3) := by decide +kernel
theorem dX12_tells_66 : decode cX12_tells 66 = .ok (.goto (-20), 3) := by decide +kernel
theorem dX12_tells_69 : decode cX12_tells 69 = .ok (.iconst 0, 1) := by decide +kernel
theorem dX12_tells_70 : decode cX12_tells 70 = .ok (.istore_n 1, 1) := by decide +kernel
theorem dX12_tells_71 : decode cX12_tells 71 = .ok (.iload_n 1, 1) := by decide +kernel
theorem dX12_tells_72 : decode cX12_tells 72 = .ok (.iconst 4, 1) := by decide +kernel
theorem dX12_tells_73 : decode cX12_tells 73 = .ok (.if_icmp .ge 21, 3) := by decide +kernel
theorem dX12_tells_76 : decode cX12_tells 76 = .ok (.aload_n 0, 1) := by decide +kernel
theorem dX12_tells_77 : decode cX12_tells 77 = .ok (.getfield 51, 3) := by decide +kernel
theorem dX12_tells_80 : decode cX12_tells 80 = .ok (.iload_n 1, 1) := by decide +kernel
theorem dX12_tells_81 : decode cX12_tells 81 = .ok (.aload_n 0, 1) := by decide +kernel
theorem dX12_tells_82 : decode cX12_tells 82 = .ok (.getfield 48, 3) := by decide +kernel
theorem dX12_tells_85 : decode cX12_tells 85 = .ok (.iload_n 1, 1) := by decide +kernel
theorem dX12_tells_86 : decode cX12_tells 86 = .ok (.laload, 1) := by decide +kernel
theorem dX12_tells_87 : decode cX12_tells 87 = .ok (.lastore, 1) := by decide +kernel
theorem dX12_tells_88 : decode cX12_tells 88 = .ok (.iinc 1 1, 3) := by decide +kernel
theorem dX12_tells_91 : decode cX12_tells 91 = .ok (.goto (-20), 3) := by decide +kernel
theorem dX12_tells_94 : decode cX12_tells 94 = .ok (.aload_n 0, 1) := by decide +kernel
theorem dX12_tells_95 : decode cX12_tells 95 = .ok (.aload_n 0, 1) := by decide +kernel
theorem dX12_tells_96 : decode cX12_tells 96 = .ok (.getfield 166, 3) := by decide +kernel
theorem dX12_tells_99 : decode cX12_tells 99 = .ok (.putfield 234, 3) := by decide +kernel
theorem dX12_tells_102 : decode cX12_tells 102 = .ok (.aload_n 0, 1) := by decide +kernel
theorem dX12_tells_103 : decode cX12_tells 103 = .ok (.aload_n 0, 1) := by decide +kernel
theorem dX12_tells_104 : decode cX12_tells 104 = .ok (.getfield 173, 3) := by decide +kernel
theorem dX12_tells_107 : decode cX12_tells 107 = .ok (.putfield 237, 3) := by decide +kernel
theorem dX12_tells_110 : decode cX12_tells 110 = .ok (.aload_n 0, 1) := by decide +kernel
theorem dX12_tells_111 : decode cX12_tells 111 = .ok (.aload_n 0, 1) := by decide +kernel
theorem dX12_tells_112 : decode cX12_tells 112 = .ok (.getfield 183, 3) := by decide +kernel
theorem dX12_tells_115 : decode cX12_tells 115 = .ok (.putfield 240, 3) := by decide +kernel
theorem dX12_tells_118 : decode cX12_tells 118 = .ok (.aload_n 0, 1) := by decide +kernel
theorem dX12_tells_119 : decode cX12_tells 119 = .ok (.iconst 0, 1) := by decide +kernel
theorem dX12_tells_120 : decode cX12_tells 120 = .ok (.putfield 243, 3) := by decide +kernel
theorem dX12_tells_123 : decode cX12_tells 123 = .ok (.iconst 0, 1) := by decide +kernel
theorem dX12_tells_124 : decode cX12_tells 124 = .ok (.istore_n 1, 1) := by decide +kernel
theorem dX12_tells_125 : decode cX12_tells 125 = .ok (.iload_n 1, 1) := by decide +kernel
theorem dX12_tells_126 : decode cX12_tells 126 = .ok (.aload_n 0, 1) := by decide +kernel
theorem dX12_tells_127 : decode cX12_tells 127 = .ok (.getfield 234, 3) := by decide +kernel
theorem dX12_tells_130 : decode cX12_tells 130 = .ok (.if_icmp .ge 47, 3) := by decide +kernel
theorem dX12_tells_133 : decode cX12_tells 133 = .ok (.aload_n 0, 1) := by decide +kernel
theorem dX12_tells_134 : decode cX12_tells 134 = .ok (.aload_n 0, 1) := by decide +kernel
theorem dX12_tells_135 : decode cX12_tells 135 = .ok (.iload_n 1, 1) := by decide +kernel
theorem dX12_tells_136 : decode cX12_tells 136 = .ok (.aload_n 0, 1) := by decide +kernel
theorem dX12_tells_137 : decode cX12_tells 137 = .ok (.iload_n 1, 1) := by decide +kernel
theorem dX12_tells_138 : decode cX12_tells 138 = .ok (.invokevirtual 246, 3) := by decide +kernel
theorem dX12_tells_141 : decode cX12_tells 141 = .ok (.invokevirtual 249, 3) := by decide +kernel
theorem dX12_tells_144 : decode cX12_tells 144 = .ok (.aload_n 0, 1) := by decide +kernel
theorem dX12_tells_145 : decode cX12_tells 145 = .ok (.getfield 243, 3) := by decide +kernel
theorem dX12_tells_148 : decode cX12_tells 148 = .ok (.if_icmp .le 16, 3) := by decide +kernel
theorem dX12_tells_151 : decode cX12_tells 151 = .ok (.aload_n 0, 1) := by decide +kernel
theorem dX12_tells_152 : decode cX12_tells 152 = .ok (.iload_n 1, 1) := by decide +kernel
theorem dX12_tells_153 : decode cX12_tells 153 = .ok (.aload_n 0, 1) := by decide +kernel
theorem dX12_tells_154 : decode cX12_tells 154 = .ok (.iload_n 1, 1) := by decide +kernel
theorem dX12_tells_155 : decode cX12_tells 155 = .ok (.invokevirtual 246, 3) := by decide +kernel
theorem dX12_tells_158 : decode cX12_tells 158 = .ok (.invokevirtual 249, 3) := by decide +kernel
theorem dX12_tells_161 : decode cX12_tells 161 = .ok (.goto 7, 3) := by decide +kernel
theorem dX12_tells_164 : decode cX12_tells 164 = .ok (.aload_n 0, 1) := by decide +kernel
theorem dX12_tells_165 : decode cX12_tells 165 = .ok (.getfield 243, 3) := by decide +kernel
theorem dX12_tells_168 : decode cX12_tells 168 = .ok (.putfield 243, 3) := by decide +kernel
theorem dX12_tells_171 : decode cX12_tells 171 = .ok (.iinc 1 1, 3) := by decide +kernel
theorem dX12_tells_174 : decode cX12_tells 174 = .ok (.goto (-49), 3) := by decide +kernel
theorem dX12_tells_177 : decode cX12_tells 177 = .ok (.return_, 1) := by decide +kernel
theorem dX12_text_0 : decode cX12_text 0 = .ok (.aload_n 0, 1) := by decide +kernel
theorem dX12_text_1 : decode cX12_text 1 = .ok (.iconst 0, 1) := by decide +kernel
theorem dX12_text_2 : decode cX12_text 2 = .ok (.putfield 101, 3) := by decide +kernel
theorem dX12_text_5 : decode cX12_text 5 = .ok (.iload_n 1, 1) := by decide +kernel
theorem dX12_text_6 : decode cX12_text 6 = .ok (.i2l, 1) := by decide +kernel
theorem dX12_text_7 : decode cX12_text 7 = .ok (.lconst 0, 1) := by decide +kernel
theorem dX12_text_8 : decode cX12_text 8 = .ok (.lconst 1, 1) := by decide +kernel
theorem dX12_text_9 : decode cX12_text 9 = .ok (.invokestatic 156, 3) := by decide +kernel
theorem dX12_text_12 : decode cX12_text 12 = .ok (.ifCond .eq 25, 3) := by decide +kernel
theorem dX12_text_15 : decode cX12_text 15 = .ok (.iload_n 1, 1) := by decide +kernel
theorem dX12_text_16 : decode cX12_text 16 = .ok (.iconst 1, 1) := by decide +kernel
theorem dX12_text_17 : decode cX12_text 17 = .ok (.if_icmp .ne 11, 3) := by decide +kernel
theorem dX12_text_20 : decode cX12_text 20 = .ok (.aload_n 0, 1) := by decide +kernel
theorem dX12_text_21 : decode cX12_text 21 = .ok (.getfield 252, 3) := by decide +kernel
theorem dX12_text_24 : decode cX12_text 24 = .ok (.iconst 4, 1) := by decide +kernel
theorem dX12_text_25 : decode cX12_text 25 = .ok (.if_icmp .eq 12, 3) := by decide +kernel
theorem dX12_text_28 : decode cX12_text 28 = .ok (.aload_n 0, 1) := by decide +kernel
theorem dX12_text_29 : decode cX12_text 29 = .ok (.iload_n 1, 1) := by decide +kernel
theorem dX12_text_30 : decode cX12_text 30 = .ok (.invokevirtual 255, 3) := by decide +kernel
theorem dX12_text_33 : decode cX12_text 33 = .ok (.iconst (-1), 1) := by decide +kernel
theorem dX12_text_34 : decode cX12_text 34 = .ok (.if_icmp .eq 5, 3) := by decide +kernel
theorem dX12_text_37 : decode cX12_text 37 = .ok (.iconst (-1), 1) := by decide +kernel
theorem dX12_text_38 : decode cX12_text 38 = .ok (.ireturn, 1) := by decide +kernel
theorem dX12_text_39 : decode cX12_text 39 = .ok (.aload_n 0, 1) := by decide +kernel
theorem dX12_text_40 : decode cX12_text 40 = .ok (.iconst 0, 1) := by decide +kernel
theorem dX12_text_41 : decode cX12_text 41 = .ok (.putfield 104, 3) := by decide +kernel
theorem dX12_text_44 : decode cX12_text 44 = .ok (.iload_n 1, 1) := by decide +kernel
theorem dX12_text_45 : decode cX12_text 45 = .ok (.iconst 1, 1) := by decide +kernel
theorem dX12_text_46 : decode cX12_text 46 = .ok (.if_icmp .ne 110, 3) := by decide +kernel
theorem dX12_text_49 : decode cX12_text 49 = .ok (.iconst 0, 1) := by decide +kernel
theorem dX12_text_50 : decode cX12_text 50 = .ok (.istore_n 2, 1) := by decide +kernel
theorem dX12_text_51 : decode cX12_text 51 = .ok (.iload_n 2, 1) := by decide +kernel
theorem dX12_text_52 : decode cX12_text 52 = .ok (.bipush 48, 2) := by decide +kernel
theorem dX12_text_54 : decode cX12_text 54 = .ok (.if_icmp .ge 33, 3) := by decide +kernel
theorem dX12_text_57 : decode cX12_text 57 = .ok (.aload_n 0, 1) := by decide +kernel
theorem dX12_text_58 : decode cX12_text 58 = .ok (.getfield 54, 3) := by decide +kernel
theorem dX12_text_61 : decode cX12_text 61 = .ok (.bipush 48, 2) := by decide +kernel
theorem dX12_text_63 : decode cX12_text 63 = .ok (.aload_n 0, 1) := by decide +kernel
theorem dX12_text_64 : decode cX12_text 64 = .ok (.getfield 252, 3) := by decide +kernel
theorem dX12_text_67 : decode cX12_text 67 = .ok (.imul, 1) := by decide +kernel
theorem dX12_text_68 : decode cX12_text 68 = .ok (.iload_n 2, 1) := by decide +kernel
theorem dX12_text_69 : decode cX12_text 69 = .ok (.iadd, 1) := by decide +kernel
theorem dX12_text_70 : decode cX12_text 70 = .ok (.aload_n 0, 1) := by decide +kernel
theorem dX12_text_71 : decode cX12_text 71 = .ok (.getfield 54, 3) := by decide +kernel
theorem dX12_text_74 : decode cX12_text 74 = .ok (.sipush 192, 3) := by decide +kernel
theorem dX12_text_77 : decode cX12_text 77 = .ok (.iload_n 2, 1) := by decide +kernel
theorem dX12_text_78 : decode cX12_text 78 = .ok (.iadd, 1) := by decide +kernel
theorem dX12_text_79 : decode cX12_text 79 = .ok (.iaload, 1) := by decide +kernel
theorem dX12_text_80 : decode cX12_text 80 = .ok (.iastore, 1) := by decide +kernel
theorem dX12_text_81 : decode cX12_text 81 = .ok (.iinc 2 1, 3) := by decide +kernel
theorem dX12_text_84 : decode cX12_text 84 = .ok (.goto (-33), 3) := by decide +kernel
theorem dX12_text_87 : decode cX12_text 87 = .ok (.iconst 0, 1) := by decide +kernel
theorem dX12_text_88 : decode cX12_text 88 = .ok (.istore_n 2, 1) := by decide +kernel
theorem dX12_text_89 : decode cX12_text 89 = .ok (.iload_n 2, 1) := by decide +kernel
theorem dX12_text_90 : decode cX12_text 90 = .ok (.bipush 12, 2) := by decide +kernel
theorem dX12_text_92 : decode cX12_text 92 = .ok (.if_icmp .ge 32, 3) := by decide +kernel
theorem dX12_text_95 : decode cX12_text 95 = .ok (.aload_n 0, 1) := by decide +kernel
theorem dX12_text_96 : decode cX12_text 96 = .ok (.getfield 60, 3) := by decide +kernel
theorem dX12_text_99 : decode cX12_text 99 = .ok (.bipush 12, 2) := by decide +kernel
theorem dX12_text_101 : decode cX12_text 101 = .ok (.aload_n 0, 1) := by decide +kernel
theorem dX12_text_102 : decode cX12_text 102 = .ok (.getfield 252, 3) := by decide +kernel
theorem dX12_text_105 : decode cX12_text 105 = .ok (.imul, 1) := by decide +kernel
theorem dX12_text_106 : decode cX12_text 106 = .ok (.iload_n 2, 1) := by decide +kernel
theorem dX12_text_107 : decode cX12_text 107 = .ok (.iadd, 1) := by decide +kernel
theorem dX12_text_108 : decode cX12_text 108 = .ok (.aload_n 0, 1) := by decide +kernel
theorem dX12_text_109 : decode cX12_text 109 = .ok (.getfield 60, 3) := by decide +kernel
theorem dX12_text_112 : decode cX12_text 112 = .ok (.bipush 48, 2) := by decide +kernel
theorem dX12_text_114 : decode cX12_text 114 = .ok (.iload_n 2, 1) := by decide +kernel
theorem dX12_text_115 : decode cX12_text 115 = .ok (.iadd, 1) := by decide +kernel
theorem dX12_text_116 : decode cX12_text 116 = .ok (.laload, 1) := by decide +kernel
theorem dX12_text_117 : decode cX12_text 117 = .ok (.lastore, 1) := by decide +kernel
theorem dX12_text_118 : decode cX12_text 118 = .ok (.iinc 2 1, 3) := by decide +kernel
theorem dX12_text_121 : decode cX12_text 121 = .ok (.goto (-32), 3) := by decide +kernel
theorem dX12_text_124 : decode cX12_text 124 = .ok (.aload_n 0, 1) := by decide +kernel
theorem dX12_text_125 : decode cX12_text 125 = .ok (.getfield 57, 3) := by decide +kernel
theorem dX12_text_128 : decode cX12_text 128 = .ok (.aload_n 0, 1) := by decide +kernel
theorem dX12_text_129 : decode cX12_text 129 = .ok (.getfield 252, 3) := by decide +kernel
theorem dX12_text_132 : decode cX12_text 132 = .ok (.aload_n 0, 1) := by decide +kernel
theorem dX12_text_133 : decode cX12_text 133 = .ok (.getfield 57, 3) := by decide +kernel
theorem dX12_text_136 : decode cX12_text 136 = .ok (.iconst 4, 1) := by decide +kernel
theorem dX12_text_137 : decode cX12_text 137 = .ok (.iaload, 1) := by decide +kernel
theorem dX12_text_138 : decode cX12_text 138 = .ok (.iastore, 1) := by decide +kernel
theorem dX12_text_139 : decode cX12_text 139 = .ok (.aload_n 0, 1) := by decide +kernel
theorem dX12_text_140 : decode cX12_text 140 = .ok (.dup, 1) := by decide +kernel
theorem dX12_text_141 : decode cX12_text 141 = .ok (.getfield 252, 3) := by decide +kernel
theorem dX12_text_144 : decode cX12_text 144 = .ok (.iconst 1, 1) := by decide +kernel
theorem dX12_text_145 : decode cX12_text 145 = .ok (.iadd, 1) := by decide +kernel
theorem dX12_text_146 : decode cX12_text 146 = .ok (.putfield 252, 3) := by decide +kernel
theorem dX12_text_149 : decode cX12_text 149 = .ok (.aload_n 0, 1) := by decide +kernel
theorem dX12_text_150 : decode cX12_text 150 = .ok (.getfield 252, 3) := by decide +kernel
theorem dX12_text_153 : decode cX12_text 153 = .ok (.iconst 1, 1) := by decide +kernel
theorem dX12_text_154 : decode cX12_text 154 = .ok (.isub, 1) := by decide +kernel
theorem dX12_text_155 : decode cX12_text 155 = .ok (.ireturn, 1) := by decide +kernel
theorem dX12_text_156 : decode cX12_text 156 = .ok (.aload_n 0, 1) := by decide +kernel
theorem dX12_text_157 : decode cX12_text 157 = .ok (.invokevirtual 257, 3) := by decide +kernel
theorem dX12_text_160 : decode cX12_text 160 = .ok (.iconst 0, 1) := by decide +kernel
theorem dX12_text_161 : decode cX12_text 161 = .ok (.istore_n 2, 1) := by decide +kernel
theorem dX12_text_162 : decode cX12_text 162 = .ok (.iload_n 2, 1) := by decide +kernel
theorem dX12_text_163 : decode cX12_text 163 = .ok (.sipush 256, 3) := by decide +kernel
theorem dX12_text_166 : decode cX12_text 166 = .ok (.if_icmp .ge 16, 3) := by decide +kernel
theorem dX12_text_169 : decode cX12_text 169 = .ok (.aload_n 0, 1) := by decide +kernel
theorem dX12_text_170 : decode cX12_text 170 = .ok (.getfield 63, 3) := by decide +kernel
theorem dX12_text_173 : decode cX12_text 173 = .ok (.iload_n 2, 1) := by decide +kernel
theorem dX12_text_174 : decode cX12_text 174 = .ok (.iconst 0, 1) := by decide +kernel
theorem dX12_text_175 : decode cX12_text 175 = .ok (.iastore, 1) := by decide +kernel
theorem dX12_text_176 : decode cX12_text 176 = .ok (.iinc 2 1, 3) := by decide +kernel
theorem dX12_text_179 : decode cX12_text 179 = .ok (.goto (-17), 3) := by decide +kernel
theorem dX12_text_182 : decode cX12_text 182 = .ok (.aload_n 0, 1) := by decide +kernel
theorem dX12_text_183 : decode cX12_text 183 = .ok (.iconst 0, 1) := by decide +kernel
theorem dX12_text_184 : decode cX12_text 184 = .ok (.putfield 260, 3) := by decide +kernel
theorem dX12_text_187 : decode cX12_text 187 = .ok (.aload_n 0, 1) := by decide +kernel
theorem dX12_text_188 : decode cX12_text 188 = .ok (.iconst 0, 1) := by decide +kernel
theorem dX12_text_189 : decode cX12_text 189 = .ok (.putfield 263, 3) := by decide +kernel
theorem dX12_text_192 : decode cX12_text 192 = .ok (.aload_n 0, 1) := by decide +kernel
theorem dX12_text_193 : decode cX12_text 193 = .ok (.getfield 234, 3) := by decide +kernel
theorem dX12_text_196 : decode cX12_text 196 = .ok (.ireturn, 1) := by decide +kernel
theorem dX12_copyRow_0 : decode cX12_copyRow 0 = .ok (.iconst 0, 1) := by decide +kernel
theorem dX12_copyRow_1 : decode cX12_copyRow 1 = .ok (.istore 4, 2) := by decide +kernel
theorem dX12_copyRow_3 : decode cX12_copyRow 3 = .ok (.iload 4, 2) := by decide +kernel
theorem dX12_copyRow_5 : decode cX12_copyRow 5 = .ok (.sipush 256, 3) := by decide +kernel
theorem dX12_copyRow_8 : decode cX12_copyRow 8 = .ok (.if_icmp .ge 21, 3) := by decide +kernel
theorem dX12_copyRow_11 : decode cX12_copyRow 11 = .ok (.aload_n 2, 1) := by decide +kernel
theorem dX12_copyRow_12 : decode cX12_copyRow 12 = .ok (.iload_n 3, 1) := by decide +kernel
theorem dX12_copyRow_13 : decode cX12_copyRow 13 = .ok (.iload 4, 2) := by decide +kernel
theorem dX12_copyRow_15 : decode cX12_copyRow 15 = .ok (.iadd, 1) := by decide +kernel
theorem dX12_copyRow_16 : decode cX12_copyRow 16 = .ok (.aload_n 0, 1) := by decide +kernel
theorem dX12_copyRow_17 : decode cX12_copyRow 17 = .ok (.iload_n 1, 1) := by decide +kernel
theorem dX12_copyRow_18 : decode cX12_copyRow 18 = .ok (.iload 4, 2) := by decide +kernel
theorem dX12_copyRow_20 : decode cX12_copyRow 20 = .ok (.iadd, 1) := by decide +kernel
theorem dX12_copyRow_21 : decode cX12_copyRow 21 = .ok (.iaload, 1) := by decide +kernel
theorem dX12_copyRow_22 : decode cX12_copyRow 22 = .ok (.iastore, 1) := by decide +kernel
theorem dX12_copyRow_23 : decode cX12_copyRow 23 = .ok (.iinc 4 1, 3) := by decide +kernel
theorem dX12_copyRow_26 : decode cX12_copyRow 26 = .ok (.goto (-23), 3) := by decide +kernel
theorem dX12_copyRow_29 : decode cX12_copyRow 29 = .ok (.return_, 1) := by decide +kernel
theorem dX12_speed_0 : decode cX12_speed 0 = .ok (.aload_n 0, 1) := by decide +kernel
theorem dX12_speed_1 : decode cX12_speed 1 = .ok (.getfield 29, 3) := by decide +kernel
theorem dX12_speed_4 : decode cX12_speed 4 = .ok (.iconst 2, 1) := by decide +kernel
theorem dX12_speed_5 : decode cX12_speed 5 = .ok (.iconst 5, 1) := by decide +kernel
theorem dX12_speed_6 : decode cX12_speed 6 = .ok (.iload_n 1, 1) := by decide +kernel
theorem dX12_speed_7 : decode cX12_speed 7 = .ok (.imul, 1) := by decide +kernel
theorem dX12_speed_8 : decode cX12_speed 8 = .ok (.iload_n 2, 1) := by decide +kernel
theorem dX12_speed_9 : decode cX12_speed 9 = .ok (.iadd, 1) := by decide +kernel
theorem dX12_speed_10 : decode cX12_speed 10 = .ok (.imul, 1) := by decide +kernel
theorem dX12_speed_11 : decode cX12_speed 11 = .ok (.iaload, 1) := by decide +kernel
theorem dX12_speed_12 : decode cX12_speed 12 = .ok (.ireturn, 1) := by decide +kernel
theorem dX12_cost_0 : decode cX12_cost 0 = .ok (.aload_n 0, 1) := by decide +kernel
theorem dX12_cost_1 : decode cX12_cost 1 = .ok (.getfield 29, 3) := by decide +kernel
theorem dX12_cost_4 : decode cX12_cost 4 = .ok (.iconst 2, 1) := by decide +kernel
theorem dX12_cost_5 : decode cX12_cost 5 = .ok (.iconst 5, 1) := by decide +kernel
theorem dX12_cost_6 : decode cX12_cost 6 = .ok (.iload_n 1, 1) := by decide +kernel
theorem dX12_cost_7 : decode cX12_cost 7 = .ok (.imul, 1) := by decide +kernel
theorem dX12_cost_8 : decode cX12_cost 8 = .ok (.iload_n 2, 1) := by decide +kernel
theorem dX12_cost_9 : decode cX12_cost 9 = .ok (.iadd, 1) := by decide +kernel
theorem dX12_cost_10 : decode cX12_cost 10 = .ok (.imul, 1) := by decide +kernel
theorem dX12_cost_11 : decode cX12_cost 11 = .ok (.iconst 1, 1) := by decide +kernel
theorem dX12_cost_12 : decode cX12_cost 12 = .ok (.iadd, 1) := by decide +kernel
theorem dX12_cost_13 : decode cX12_cost 13 = .ok (.iaload, 1) := by decide +kernel
theorem dX12_cost_14 : decode cX12_cost 14 = .ok (.ireturn, 1) := by decide +kernel
theorem dX12_lastPoint_0 : decode cX12_lastPoint 0 = .ok (.aload_n 0, 1) := by decide +kernel
theorem dX12_lastPoint_1 : decode cX12_lastPoint 1 = .ok (.getfield 23, 3) := by decide +kernel
theorem dX12_lastPoint_4 : decode cX12_lastPoint 4 = .ok (.iconst 4, 1) := by decide +kernel
theorem dX12_lastPoint_5 : decode cX12_lastPoint 5 = .ok (.iload_n 1, 1) := by decide +kernel
theorem dX12_lastPoint_6 : decode cX12_lastPoint 6 = .ok (.imul, 1) := by decide +kernel
theorem dX12_lastPoint_7 : decode cX12_lastPoint 7 = .ok (.iconst 3, 1) := by decide +kernel
theorem dX12_lastPoint_8 : decode cX12_lastPoint 8 = .ok (.iadd, 1) := by decide +kernel
theorem dX12_lastPoint_9 : decode cX12_lastPoint 9 = .ok (.iaload, 1) := by decide +kernel
theorem dX12_lastPoint_10 : decode cX12_lastPoint 10 = .ok (.iconst 1, 1) := by decide +kernel
theorem dX12_lastPoint_11 : decode cX12_lastPoint 11 = .ok (.isub, 1) := by decide +kernel
theorem dX12_lastPoint_12 : decode cX12_lastPoint 12 = .ok (.ireturn, 1) := by decide +kernel
theorem dX12_firstCore_0 : decode cX12_firstCore 0 = .ok (.iconst 0, 1) := by decide +kernel
theorem dX12_firstCore_1 : decode cX12_firstCore 1 = .ok (.istore_n 2, 1) := by decide +kernel
theorem dX12_firstCore_2 : decode cX12_firstCore 2 = .ok (.iconst 0, 1) := by decide +kernel
theorem dX12_firstCore_3 : decode cX12_firstCore 3 = .ok (.istore_n 3, 1) := by decide +kernel
theorem dX12_firstCore_4 : decode cX12_firstCore 4 = .ok (.iload_n 3, 1) := by decide +kernel
theorem dX12_firstCore_5 : decode cX12_firstCore 5 = .ok (.iload_n 1, 1) := by decide +kernel
theorem dX12_firstCore_6 : decode cX12_firstCore 6 = .ok (.if_icmp .ge 20, 3) := by decide +kernel
theorem dX12_firstCore_9 : decode cX12_firstCore 9 = .ok (.iload_n 2, 1) := by decide +kernel
theorem dX12_firstCore_10 : decode cX12_firstCore 10 = .ok (.aload_n 0, 1) := by decide +kernel
theorem dX12_firstCore_11 : decode cX12_firstCore 11 = .ok (.getfield 23, 3) := by decide +kernel
theorem dX12_firstCore_14 : decode cX12_firstCore 14 = .ok (.iconst 4, 1) := by decide +kernel
theorem dX12_firstCore_15 : decode cX12_firstCore 15 = .ok (.iload_n 3, 1) := by decide +kernel
theorem dX12_firstCore_16 : decode cX12_firstCore 16 = .ok (.imul, 1) := by decide +kernel
theorem dX12_firstCore_17 : decode cX12_firstCore 17 = .ok (.iaload, 1) := by decide +kernel
theorem dX12_firstCore_18 : decode cX12_firstCore 18 = .ok (.iadd, 1) := by decide +kernel
theorem dX12_firstCore_19 : decode cX12_firstCore 19 = .ok (.istore_n 2, 1) := by decide +kernel
theorem dX12_firstCore_20 : decode cX12_firstCore 20 = .ok (.iinc 3 1, 3) := by decide +kernel
theorem dX12_firstCore_23 : decode cX12_firstCore 23 = .ok (.goto (-19), 3) := by decide +kernel
theorem dX12_firstCore_26 : decode cX12_firstCore 26 = .ok (.iload_n 2, 1) := by decide +kernel
theorem dX12_firstCore_27 : decode cX12_firstCore 27 = .ok (.ireturn, 1) := by decide +kernel
theorem dX12_clusterOf_0 : decode cX12_clusterOf 0 = .ok (.iconst 0, 1) := by decide +kernel
theorem dX12_clusterOf_1 : decode cX12_clusterOf 1 = .ok (.istore_n 2, 1) := by decide +kernel
theorem dX12_clusterOf_2 : decode cX12_clusterOf 2 = .ok (.iload_n 1, 1) := by decide +kernel
theorem dX12_clusterOf_3 : decode cX12_clusterOf 3 = .ok (.aload_n 0, 1) := by decide +kernel
theorem dX12_clusterOf_4 : decode cX12_clusterOf 4 = .ok (.iload_n 2, 1) := by decide +kernel
theorem dX12_clusterOf_5 : decode cX12_clusterOf 5 = .ok (.invokevirtual 267, 3) := by decide +kernel
theorem dX12_clusterOf_8 : decode cX12_clusterOf 8 = .ok (.aload_n 0, 1) := by decide +kernel
theorem dX12_clusterOf_9 : decode cX12_clusterOf 9 = .ok (.getfield 23, 3) := by decide +kernel
theorem dX12_clusterOf_12 : decode cX12_clusterOf 12 = .ok (.iconst 4, 1) := by decide +kernel
theorem dX12_clusterOf_13 : decode cX12_clusterOf 13 = .ok (.iload_n 2, 1) := by decide +kernel
theorem dX12_clusterOf_14 : decode cX12_clusterOf 14 = .ok (.imul, 1) := by decide +kernel
theorem dX12_clusterOf_15 : decode cX12_clusterOf 15 = .ok (.iaload, 1) := by decide +kernel
theorem dX12_clusterOf_16 : decode cX12_clusterOf 16 = .ok (.iadd, 1) := by decide +kernel
theorem dX12_clusterOf_17 : decode cX12_clusterOf 17 = .ok (.if_icmp .lt 9, 3) := by decide +kernel
theorem dX12_clusterOf_20 : decode cX12_clusterOf 20 = .ok (.iinc 2 1, 3) := by decide +kernel
theorem dX12_clusterOf_23 : decode cX12_clusterOf 23 = .ok (.goto (-21), 3) := by decide +kernel
theorem dX12_clusterOf_26 : decode cX12_clusterOf 26 = .ok (.iload_n 2, 1) := by decide +kernel
theorem dX12_clusterOf_27 : decode cX12_clusterOf 27 = .ok (.ireturn, 1) := by decide +kernel
theorem dX12_pointFor_0 : decode cX12_pointFor 0 = .ok (.iconst 0, 1) := by decide +kernel
theorem dX12_pointFor_1 : decode cX12_pointFor 1 = .ok (.istore_n 3, 1) := by decide +kernel
theorem dX12_pointFor_2 : decode cX12_pointFor 2 = .ok (.iload_n 3, 1) := by decide +kernel
theorem dX12_pointFor_3 : decode cX12_pointFor 3 = .ok (.aload_n 0, 1) := by decide +kernel
theorem dX12_pointFor_4 : decode cX12_pointFor 4 = .ok (.iload_n 1, 1) := by decide +kernel
theorem dX12_pointFor_5 : decode cX12_pointFor 5 = .ok (.invokevirtual 246, 3) := by decide +kernel
theorem dX12_pointFor_8 : decode cX12_pointFor 8 = .ok (.if_icmp .gt 19, 3) := by decide +kernel
theorem dX12_pointFor_11 : decode cX12_pointFor 11 = .ok (.aload_n 0, 1) := by decide +kernel
theorem dX12_pointFor_12 : decode cX12_pointFor 12 = .ok (.iload_n 1, 1) := by decide +kernel
theorem dX12_pointFor_13 : decode cX12_pointFor 13 = .ok (.iload_n 3, 1) := by decide +kernel
theorem dX12_pointFor_14 : decode cX12_pointFor 14 = .ok (.invokevirtual 249, 3) := by decide +kernel
theorem dX12_pointFor_17 : decode cX12_pointFor 17 = .ok (.iload_n 2, 1) := by decide +kernel
theorem dX12_pointFor_18 : decode cX12_pointFor 18 = .ok (.if_icmp .ge 9, 3) := by decide +kernel
theorem dX12_pointFor_21 : decode cX12_pointFor 21 = .ok (.iinc 3 1, 3) := by decide +kernel
theorem dX12_pointFor_24 : decode cX12_pointFor 24 = .ok (.goto (-22), 3) := by decide +kernel
theorem dX12_pointFor_27 : decode cX12_pointFor 27 = .ok (.iload_n 3, 1) := by decide +kernel
theorem dX12_pointFor_28 : decode cX12_pointFor 28 = .ok (.ireturn, 1) := by decide +kernel
theorem dX12_up_0 : decode cX12_up 0 = .ok (.iload_n 0, 1) := by decide +kernel
theorem dX12_up_1 : decode cX12_up 1 = .ok (.iload_n 1, 1) := by decide +kernel
theorem dX12_up_2 : decode cX12_up 2 = .ok (.iadd, 1) := by decide +kernel
theorem dX12_up_3 : decode cX12_up 3 = .ok (.iconst 1, 1) := by decide +kernel
theorem dX12_up_4 : decode cX12_up 4 = .ok (.isub, 1) := by decide +kernel
theorem dX12_up_5 : decode cX12_up 5 = .ok (.iload_n 1, 1) := by decide +kernel
theorem dX12_up_6 : decode cX12_up 6 = .ok (.idiv, 1) := by decide +kernel
theorem dX12_up_7 : decode cX12_up 7 = .ok (.ireturn, 1) := by decide +kernel
theorem dX12_lowOf_0 : decode cX12_lowOf 0 = .ok (.iconst 0, 1) := by decide +kernel
theorem dX12_lowOf_1 : decode cX12_lowOf 1 = .ok (.istore_n 3, 1) := by decide +kernel
theorem dX12_lowOf_2 : decode cX12_lowOf 2 = .ok (.iconst 0, 1) := by decide +kernel
theorem dX12_lowOf_3 : decode cX12_lowOf 3 = .ok (.istore 4, 2) := by decide +kernel
theorem dX12_lowOf_5 : decode cX12_lowOf 5 = .ok (.iload 4, 2) := by decide +kernel
theorem dX12_lowOf_7 : decode cX12_lowOf 7 = .ok (.aload_n 1, 1) := by decide +kernel
theorem dX12_lowOf_8 : decode cX12_lowOf 8 = .ok (.bipush 44, 2) := by decide +kernel
theorem dX12_lowOf_10 : decode cX12_lowOf 10 = .ok (.iaload, 1) := by decide +kernel
theorem dX12_lowOf_11 : decode cX12_lowOf 11 = .ok (.if_icmp .ge 45, 3) := by decide +kernel
theorem dX12_lowOf_14 : decode cX12_lowOf 14 = .ok (.aload_n 1, 1) := by decide +kernel
theorem dX12_lowOf_15 : decode cX12_lowOf 15 = .ok (.bipush 47, 2) := by decide +kernel
theorem dX12_lowOf_17 : decode cX12_lowOf 17 = .ok (.iconst 5, 1) := by decide +kernel
theorem dX12_lowOf_18 : decode cX12_lowOf 18 = .ok (.iload 4, 2) := by decide +kernel
theorem dX12_lowOf_20 : decode cX12_lowOf 20 = .ok (.imul, 1) := by decide +kernel
theorem dX12_lowOf_21 : decode cX12_lowOf 21 = .ok (.iadd, 1) := by decide +kernel
theorem dX12_lowOf_22 : decode cX12_lowOf 22 = .ok (.iaload, 1) := by decide +kernel
theorem dX12_lowOf_23 : decode cX12_lowOf 23 = .ok (.iload_n 2, 1) := by decide +kernel
theorem dX12_lowOf_24 : decode cX12_lowOf 24 = .ok (.if_icmp .ne 26, 3) := by decide +kernel
theorem dX12_lowOf_27 : decode cX12_lowOf 27 = .ok (.aload_n 1, 1) := by decide +kernel
theorem dX12_lowOf_28 : decode cX12_lowOf 28 = .ok (.bipush 48, 2) := by decide +kernel
theorem dX12_lowOf_30 : decode cX12_lowOf 30 = .ok (.iconst 5, 1) := by decide +kernel
theorem dX12_lowOf_31 : decode cX12_lowOf 31 = .ok (.iload 4, 2) := by decide +kernel
theorem dX12_lowOf_33 : decode cX12_lowOf 33 = .ok (.imul, 1) := by decide +kernel
theorem dX12_lowOf_34 : decode cX12_lowOf 34 = .ok (.iadd, 1) := by decide +kernel
theorem dX12_lowOf_35 : decode cX12_lowOf 35 = .ok (.iaload, 1) := by decide +kernel
theorem dX12_lowOf_36 : decode cX12_lowOf 36 = .ok (.iload_n 3, 1) := by decide +kernel
theorem dX12_lowOf_37 : decode cX12_lowOf 37 = .ok (.if_icmp .le 13, 3) := by decide +kernel
theorem dX12_lowOf_40 : decode cX12_lowOf 40 = .ok (.aload_n 1, 1) := by decide +kernel
theorem dX12_lowOf_41 : decode cX12_lowOf 41 = .ok (.bipush 48, 2) := by decide +kernel
theorem dX12_lowOf_43 : decode cX12_lowOf 43 = .ok (.iconst 5, 1) := by decide +kernel
theorem dX12_lowOf_44 : decode cX12_lowOf 44 = .ok (.iload 4, 2) := by decide +kernel
theorem dX12_lowOf_46 : decode cX12_lowOf 46 = .ok (.imul, 1) := by decide +kernel
theorem dX12_lowOf_47 : decode cX12_lowOf 47 = .ok (.iadd, 1) := by decide +kernel
theorem dX12_lowOf_48 : decode cX12_lowOf 48 = .ok (.iaload, 1) := by decide +kernel
theorem dX12_lowOf_49 : decode cX12_lowOf 49 = .ok (.istore_n 3, 1) := by decide +kernel
theorem dX12_lowOf_50 : decode cX12_lowOf 50 = .ok (.iinc 4 1, 3) := by decide +kernel
theorem dX12_lowOf_53 : decode cX12_lowOf 53 = .ok (.goto (-48), 3) := by decide +kernel
theorem dX12_lowOf_56 : decode cX12_lowOf 56 = .ok (.iload_n 3, 1) := by decide +kernel
theorem dX12_lowOf_57 : decode cX12_lowOf 57 = .ok (.ireturn, 1) := by decide +kernel
theorem dX12_highOf_0 : decode cX12_highOf 0 = .ok (.aload_n 0, 1) := by decide +kernel
theorem dX12_highOf_1 : decode cX12_highOf 1 = .ok (.iload_n 2, 1) := by decide +kernel
theorem dX12_highOf_2 : decode cX12_highOf 2 = .ok (.invokevirtual 246, 3) := by decide +kernel
theorem dX12_highOf_5 : decode cX12_highOf 5 = .ok (.istore_n 3, 1) := by decide +kernel
theorem dX12_highOf_6 : decode cX12_highOf 6 = .ok (.iconst 0, 1) := by decide +kernel
theorem dX12_highOf_7 : decode cX12_highOf 7 = .ok (.istore 4, 2) := by decide +kernel
theorem dX12_highOf_9 : decode cX12_highOf 9 = .ok (.iload 4, 2) := by decide +kernel
theorem dX12_highOf_11 : decode cX12_highOf 11 = .ok (.aload_n 1, 1) := by decide +kernel
theorem dX12_highOf_12 : decode cX12_highOf 12 = .ok (.bipush 44, 2) := by decide +kernel
theorem dX12_highOf_14 : decode cX12_highOf 14 = .ok (.iaload, 1) := by decide +kernel
theorem dX12_highOf_15 : decode cX12_highOf 15 = .ok (.if_icmp .ge 45, 3) := by decide +kernel
theorem dX12_highOf_18 : decode cX12_highOf 18 = .ok (.aload_n 1, 1) := by decide +kernel
theorem dX12_highOf_19 : decode cX12_highOf 19 = .ok (.bipush 47, 2) := by decide +kernel
theorem dX12_highOf_21 : decode cX12_highOf 21 = .ok (.iconst 5, 1) := by decide +kernel
theorem dX12_highOf_22 : decode cX12_highOf 22 = .ok (.iload 4, 2) := by decide +kernel
theorem dX12_highOf_24 : decode cX12_highOf 24 = .ok (.imul, 1) := by decide +kernel
theorem dX12_highOf_25 : decode cX12_highOf 25 = .ok (.iadd, 1) := by decide +kernel
theorem dX12_highOf_26 : decode cX12_highOf 26 = .ok (.iaload, 1) := by decide +kernel
theorem dX12_highOf_27 : decode cX12_highOf 27 = .ok (.iload_n 2, 1) := by decide +kernel
theorem dX12_highOf_28 : decode cX12_highOf 28 = .ok (.if_icmp .ne 26, 3) := by decide +kernel
theorem dX12_highOf_31 : decode cX12_highOf 31 = .ok (.aload_n 1, 1) := by decide +kernel
theorem dX12_highOf_32 : decode cX12_highOf 32 = .ok (.bipush 49, 2) := by decide +kernel
theorem dX12_highOf_34 : decode cX12_highOf 34 = .ok (.iconst 5, 1) := by decide +kernel
theorem dX12_highOf_35 : decode cX12_highOf 35 = .ok (.iload 4, 2) := by decide +kernel
theorem dX12_highOf_37 : decode cX12_highOf 37 = .ok (.imul, 1) := by decide +kernel
theorem dX12_highOf_38 : decode cX12_highOf 38 = .ok (.iadd, 1) := by decide +kernel
theorem dX12_highOf_39 : decode cX12_highOf 39 = .ok (.iaload, 1) := by decide +kernel
theorem dX12_highOf_40 : decode cX12_highOf 40 = .ok (.iload_n 3, 1) := by decide +kernel
theorem dX12_highOf_41 : decode cX12_highOf 41 = .ok (.if_icmp .ge 13, 3) := by decide +kernel
theorem dX12_highOf_44 : decode cX12_highOf 44 = .ok (.aload_n 1, 1) := by decide +kernel
theorem dX12_highOf_45 : decode cX12_highOf 45 = .ok (.bipush 49, 2) := by decide +kernel
theorem dX12_highOf_47 : decode cX12_highOf 47 = .ok (.iconst 5, 1) := by decide +kernel
theorem dX12_highOf_48 : decode cX12_highOf 48 = .ok (.iload 4, 2) := by decide +kernel
theorem dX12_highOf_50 : decode cX12_highOf 50 = .ok (.imul, 1) := by decide +kernel
theorem dX12_highOf_51 : decode cX12_highOf 51 = .ok (.iadd, 1) := by decide +kernel
theorem dX12_highOf_52 : decode cX12_highOf 52 = .ok (.iaload, 1) := by decide +kernel
theorem dX12_highOf_53 : decode cX12_highOf 53 = .ok (.istore_n 3, 1) := by decide +kernel
theorem dX12_highOf_54 : decode cX12_highOf 54 = .ok (.iinc 4 1, 3) := by decide +kernel
theorem dX12_highOf_57 : decode cX12_highOf 57 = .ok (.goto (-48), 3) := by decide +kernel
theorem dX12_highOf_60 : decode cX12_highOf 60 = .ok (.iload_n 2, 1) := by decide +kernel
theorem dX12_highOf_61 : decode cX12_highOf 61 = .ok (.aload_n 0, 1) := by decide +kernel
theorem dX12_highOf_62 : decode cX12_highOf 62 = .ok (.getfield 75, 3) := by decide +kernel
theorem dX12_highOf_65 : decode cX12_highOf 65 = .ok (.if_icmp .ne 18, 3) := by decide +kernel
theorem dX12_highOf_68 : decode cX12_highOf 68 = .ok (.aload_n 0, 1) := by decide +kernel
theorem dX12_highOf_69 : decode cX12_highOf 69 = .ok (.getfield 270, 3) := by decide +kernel
theorem dX12_highOf_72 : decode cX12_highOf 72 = .ok (.iload_n 3, 1) := by decide +kernel
theorem dX12_highOf_73 : decode cX12_highOf 73 = .ok (.if_icmp .ge 10, 3) := by decide +kernel
theorem dX12_highOf_76 : decode cX12_highOf 76 = .ok (.aload_n 0, 1) := by decide +kernel
theorem dX12_highOf_77 : decode cX12_highOf 77 = .ok (.getfield 270, 3) := by decide +kernel
theorem dX12_highOf_80 : decode cX12_highOf 80 = .ok (.goto 4, 3) := by decide +kernel
theorem dX12_highOf_83 : decode cX12_highOf 83 = .ok (.iload_n 3, 1) := by decide +kernel
theorem dX12_highOf_84 : decode cX12_highOf 84 = .ok (.ireturn, 1) := by decide +kernel
theorem dX12_bounded_0 : decode cX12_bounded 0 = .ok (.iload_n 3, 1) := by decide +kernel
theorem dX12_bounded_1 : decode cX12_bounded 1 = .ok (.aload_n 0, 1) := by decide +kernel
theorem dX12_bounded_2 : decode cX12_bounded 2 = .ok (.aload_n 1, 1) := by decide +kernel
theorem dX12_bounded_3 : decode cX12_bounded 3 = .ok (.iload_n 2, 1) := by decide +kernel
theorem dX12_bounded_4 : decode cX12_bounded 4 = .ok (.invokevirtual 273, 3) := by decide +kernel
theorem dX12_bounded_7 : decode cX12_bounded 7 = .ok (.if_icmp .ge 12, 3) := by decide +kernel
theorem dX12_bounded_10 : decode cX12_bounded 10 = .ok (.aload_n 0, 1) := by decide +kernel
theorem dX12_bounded_11 : decode cX12_bounded 11 = .ok (.aload_n 1, 1) := by decide +kernel
theorem dX12_bounded_12 : decode cX12_bounded 12 = .ok (.iload_n 2, 1) := by decide +kernel
theorem dX12_bounded_13 : decode cX12_bounded 13 = .ok (.invokevirtual 273, 3) := by decide +kernel
theorem dX12_bounded_16 : decode cX12_bounded 16 = .ok (.goto 4, 3) := by decide +kernel
theorem dX12_bounded_19 : decode cX12_bounded 19 = .ok (.iload_n 3, 1) := by decide +kernel
theorem dX12_bounded_20 : decode cX12_bounded 20 = .ok (.istore 4, 2) := by decide +kernel
theorem dX12_bounded_22 : decode cX12_bounded 22 = .ok (.iload 4, 2) := by decide +kernel
theorem dX12_bounded_24 : decode cX12_bounded 24 = .ok (.aload_n 0, 1) := by decide +kernel
theorem dX12_bounded_25 : decode cX12_bounded 25 = .ok (.aload_n 1, 1) := by decide +kernel
theorem dX12_bounded_26 : decode cX12_bounded 26 = .ok (.iload_n 2, 1) := by decide +kernel
theorem dX12_bounded_27 : decode cX12_bounded 27 = .ok (.invokevirtual 277, 3) := by decide +kernel
theorem dX12_bounded_30 : decode cX12_bounded 30 = .ok (.if_icmp .le 12, 3) := by decide +kernel
theorem dX12_bounded_33 : decode cX12_bounded 33 = .ok (.aload_n 0, 1) := by decide +kernel
theorem dX12_bounded_34 : decode cX12_bounded 34 = .ok (.aload_n 1, 1) := by decide +kernel
theorem dX12_bounded_35 : decode cX12_bounded 35 = .ok (.iload_n 2, 1) := by decide +kernel
theorem dX12_bounded_36 : decode cX12_bounded 36 = .ok (.invokevirtual 277, 3) := by decide +kernel
theorem dX12_bounded_39 : decode cX12_bounded 39 = .ok (.goto 5, 3) := by decide +kernel
theorem dX12_bounded_42 : decode cX12_bounded 42 = .ok (.iload 4, 2) := by decide +kernel
theorem dX12_bounded_44 : decode cX12_bounded 44 = .ok (.ireturn, 1) := by decide +kernel
theorem dX12_nameOf_0 : decode cX12_nameOf 0 = .ok (.aload_n 0, 1) := by decide +kernel
theorem dX12_nameOf_1 : decode cX12_nameOf 1 = .ok (.bipush 45, 2) := by decide +kernel
theorem dX12_nameOf_3 : decode cX12_nameOf 3 = .ok (.iconst 5, 1) := by decide +kernel
theorem dX12_nameOf_4 : decode cX12_nameOf 4 = .ok (.iload_n 1, 1) := by decide +kernel
theorem dX12_nameOf_5 : decode cX12_nameOf 5 = .ok (.imul, 1) := by decide +kernel
theorem dX12_nameOf_6 : decode cX12_nameOf 6 = .ok (.iadd, 1) := by decide +kernel
theorem dX12_nameOf_7 : decode cX12_nameOf 7 = .ok (.iaload, 1) := by decide +kernel
theorem dX12_nameOf_8 : decode cX12_nameOf 8 = .ok (.i2l, 1) := by decide +kernel
theorem dX12_nameOf_9 : decode cX12_nameOf 9 = .ok (.bipush 32, 2) := by decide +kernel
theorem dX12_nameOf_11 : decode cX12_nameOf 11 = .ok (.lshl, 1) := by decide +kernel
theorem dX12_nameOf_12 : decode cX12_nameOf 12 = .ok (.aload_n 0, 1) := by decide +kernel
theorem dX12_nameOf_13 : decode cX12_nameOf 13 = .ok (.bipush 46, 2) := by decide +kernel
theorem dX12_nameOf_15 : decode cX12_nameOf 15 = .ok (.iconst 5, 1) := by decide +kernel
theorem dX12_nameOf_16 : decode cX12_nameOf 16 = .ok (.iload_n 1, 1) := by decide +kernel
theorem dX12_nameOf_17 : decode cX12_nameOf 17 = .ok (.imul, 1) := by decide +kernel
theorem dX12_nameOf_18 : decode cX12_nameOf 18 = .ok (.iadd, 1) := by decide +kernel
theorem dX12_nameOf_19 : decode cX12_nameOf 19 = .ok (.iaload, 1) := by decide +kernel
theorem dX12_nameOf_20 : decode cX12_nameOf 20 = .ok (.i2l, 1) := by decide +kernel
theorem dX12_nameOf_21 : decode cX12_nameOf 21 = .ok (.ldc2_w 280, 3) := by decide +kernel
theorem dX12_nameOf_24 : decode cX12_nameOf 24 = .ok (.land, 1) := by decide +kernel
theorem dX12_nameOf_25 : decode cX12_nameOf 25 = .ok (.lor, 1) := by decide +kernel
theorem dX12_nameOf_26 : decode cX12_nameOf 26 = .ok (.lreturn, 1) := by decide +kernel
theorem dX12_askOf_0 : decode cX12_askOf 0 = .ok (.iconst 0, 1) := by decide +kernel
theorem dX12_askOf_1 : decode cX12_askOf 1 = .ok (.istore 4, 2) := by decide +kernel
theorem dX12_askOf_3 : decode cX12_askOf 3 = .ok (.iload 4, 2) := by decide +kernel
theorem dX12_askOf_5 : decode cX12_askOf 5 = .ok (.aload_n 0, 1) := by decide +kernel
theorem dX12_askOf_6 : decode cX12_askOf 6 = .ok (.bipush 44, 2) := by decide +kernel
theorem dX12_askOf_8 : decode cX12_askOf 8 = .ok (.iaload, 1) := by decide +kernel
theorem dX12_askOf_9 : decode cX12_askOf 9 = .ok (.if_icmp .ge 36, 3) := by decide +kernel
theorem dX12_askOf_12 : decode cX12_askOf 12 = .ok (.aload_n 0, 1) := by decide +kernel
theorem dX12_askOf_13 : decode cX12_askOf 13 = .ok (.iload 4, 2) := by decide +kernel
theorem dX12_askOf_15 : decode cX12_askOf 15 = .ok (.invokestatic 282, 3) := by decide +kernel
theorem dX12_askOf_18 : decode cX12_askOf 18 = .ok (.lload_n 1, 1) := by decide +kernel
theorem dX12_askOf_19 : decode cX12_askOf 19 = .ok (.lcmp, 1) := by decide +kernel
theorem dX12_askOf_20 : decode cX12_askOf 20 = .ok (.ifCond .ne 19, 3) := by decide +kernel
theorem dX12_askOf_23 : decode cX12_askOf 23 = .ok (.aload_n 0, 1) := by decide +kernel
theorem dX12_askOf_24 : decode cX12_askOf 24 = .ok (.bipush 47, 2) := by decide +kernel
theorem dX12_askOf_26 : decode cX12_askOf 26 = .ok (.iconst 5, 1) := by decide +kernel
theorem dX12_askOf_27 : decode cX12_askOf 27 = .ok (.iload 4, 2) := by decide +kernel
theorem dX12_askOf_29 : decode cX12_askOf 29 = .ok (.imul, 1) := by decide +kernel
theorem dX12_askOf_30 : decode cX12_askOf 30 = .ok (.iadd, 1) := by decide +kernel
theorem dX12_askOf_31 : decode cX12_askOf 31 = .ok (.iaload, 1) := by decide +kernel
theorem dX12_askOf_32 : decode cX12_askOf 32 = .ok (.iload_n 3, 1) := by decide +kernel
theorem dX12_askOf_33 : decode cX12_askOf 33 = .ok (.if_icmp .ne 6, 3) := by decide +kernel
theorem dX12_askOf_36 : decode cX12_askOf 36 = .ok (.iload 4, 2) := by decide +kernel
theorem dX12_askOf_38 : decode cX12_askOf 38 = .ok (.ireturn, 1) := by decide +kernel
theorem dX12_askOf_39 : decode cX12_askOf 39 = .ok (.iinc 4 1, 3) := by decide +kernel
theorem dX12_askOf_42 : decode cX12_askOf 42 = .ok (.goto (-39), 3) := by decide +kernel
theorem dX12_askOf_45 : decode cX12_askOf 45 = .ok (.iconst (-1), 1) := by decide +kernel
theorem dX12_askOf_46 : decode cX12_askOf 46 = .ok (.ireturn, 1) := by decide +kernel
theorem dX12_loadOn_0 : decode cX12_loadOn 0 = .ok (.iconst 0, 1) := by decide +kernel
theorem dX12_loadOn_1 : decode cX12_loadOn 1 = .ok (.istore_n 3, 1) := by decide +kernel
theorem dX12_loadOn_2 : decode cX12_loadOn 2 = .ok (.iconst 0, 1) := by decide +kernel
theorem dX12_loadOn_3 : decode cX12_loadOn 3 = .ok (.istore 4, 2) := by decide +kernel
theorem dX12_loadOn_5 : decode cX12_loadOn 5 = .ok (.iload 4, 2) := by decide +kernel
theorem dX12_loadOn_7 : decode cX12_loadOn 7 = .ok (.aload_n 0, 1) := by decide +kernel
theorem dX12_loadOn_8 : decode cX12_loadOn 8 = .ok (.getfield 237, 3) := by decide +kernel
theorem dX12_loadOn_11 : decode cX12_loadOn 11 = .ok (.if_icmp .ge 34, 3) := by decide +kernel
theorem dX12_loadOn_14 : decode cX12_loadOn 14 = .ok (.iload_n 3, 1) := by decide +kernel
theorem dX12_loadOn_15 : decode cX12_loadOn 15 = .ok (.aload_n 1, 1) := by decide +kernel
theorem dX12_loadOn_16 : decode cX12_loadOn 16 = .ok (.bipush 21, 2) := by decide +kernel
theorem dX12_loadOn_18 : decode cX12_loadOn 18 = .ok (.iload 4, 2) := by decide +kernel
theorem dX12_loadOn_20 : decode cX12_loadOn 20 = .ok (.iadd, 1) := by decide +kernel
theorem dX12_loadOn_21 : decode cX12_loadOn 21 = .ok (.iaload, 1) := by decide +kernel
theorem dX12_loadOn_22 : decode cX12_loadOn 22 = .ok (.iload_n 2, 1) := by decide +kernel
theorem dX12_loadOn_23 : decode cX12_loadOn 23 = .ok (.if_icmp .ne 13, 3) := by decide +kernel
theorem dX12_loadOn_26 : decode cX12_loadOn 26 = .ok (.aload_n 1, 1) := by decide +kernel
theorem dX12_loadOn_27 : decode cX12_loadOn 27 = .ok (.bipush 29, 2) := by decide +kernel
theorem dX12_loadOn_29 : decode cX12_loadOn 29 = .ok (.iload 4, 2) := by decide +kernel
theorem dX12_loadOn_31 : decode cX12_loadOn 31 = .ok (.iadd, 1) := by decide +kernel
theorem dX12_loadOn_32 : decode cX12_loadOn 32 = .ok (.iaload, 1) := by decide +kernel
theorem dX12_loadOn_33 : decode cX12_loadOn 33 = .ok (.goto 4, 3) := by decide +kernel
theorem dX12_loadOn_36 : decode cX12_loadOn 36 = .ok (.iconst 0, 1) := by decide +kernel
theorem dX12_loadOn_37 : decode cX12_loadOn 37 = .ok (.iadd, 1) := by decide +kernel
theorem dX12_loadOn_38 : decode cX12_loadOn 38 = .ok (.istore_n 3, 1) := by decide +kernel
theorem dX12_loadOn_39 : decode cX12_loadOn 39 = .ok (.iinc 4 1, 3) := by decide +kernel
theorem dX12_loadOn_42 : decode cX12_loadOn 42 = .ok (.goto (-37), 3) := by decide +kernel
theorem dX12_loadOn_45 : decode cX12_loadOn 45 = .ok (.iload_n 3, 1) := by decide +kernel
theorem dX12_loadOn_46 : decode cX12_loadOn 46 = .ok (.ireturn, 1) := by decide +kernel
theorem dX12_needOf_0 : decode cX12_needOf 0 = .ok (.iconst 0, 1) := by decide +kernel
theorem dX12_needOf_1 : decode cX12_needOf 1 = .ok (.istore_n 3, 1) := by decide +kernel
theorem dX12_needOf_2 : decode cX12_needOf 2 = .ok (.aload_n 0, 1) := by decide +kernel
theorem dX12_needOf_3 : decode cX12_needOf 3 = .ok (.iload_n 2, 1) := by decide +kernel
theorem dX12_needOf_4 : decode cX12_needOf 4 = .ok (.invokevirtual 267, 3) := by decide +kernel
theorem dX12_needOf_7 : decode cX12_needOf 7 = .ok (.istore 4, 2) := by decide +kernel
theorem dX12_needOf_9 : decode cX12_needOf 9 = .ok (.iload 4, 2) := by decide +kernel
theorem dX12_needOf_11 : decode cX12_needOf 11 = .ok (.aload_n 0, 1) := by decide +kernel
theorem dX12_needOf_12 : decode cX12_needOf 12 = .ok (.iload_n 2, 1) := by decide +kernel
theorem dX12_needOf_13 : decode cX12_needOf 13 = .ok (.invokevirtual 267, 3) := by decide +kernel
theorem dX12_needOf_16 : decode cX12_needOf 16 = .ok (.aload_n 0, 1) := by decide +kernel
theorem dX12_needOf_17 : decode cX12_needOf 17 = .ok (.getfield 23, 3) := by decide +kernel
theorem dX12_needOf_20 : decode cX12_needOf 20 = .ok (.iconst 4, 1) := by decide +kernel
theorem dX12_needOf_21 : decode cX12_needOf 21 = .ok (.iload_n 2, 1) := by decide +kernel
theorem dX12_needOf_22 : decode cX12_needOf 22 = .ok (.imul, 1) := by decide +kernel
theorem dX12_needOf_23 : decode cX12_needOf 23 = .ok (.iaload, 1) := by decide +kernel
theorem dX12_needOf_24 : decode cX12_needOf 24 = .ok (.iadd, 1) := by decide +kernel
theorem dX12_needOf_25 : decode cX12_needOf 25 = .ok (.if_icmp .ge 32, 3) := by decide +kernel
theorem dX12_needOf_28 : decode cX12_needOf 28 = .ok (.aload_n 0, 1) := by decide +kernel
theorem dX12_needOf_29 : decode cX12_needOf 29 = .ok (.aload_n 1, 1) := by decide +kernel
theorem dX12_needOf_30 : decode cX12_needOf 30 = .ok (.iload 4, 2) := by decide +kernel
theorem dX12_needOf_32 : decode cX12_needOf 32 = .ok (.invokevirtual 286, 3) := by decide +kernel
theorem dX12_needOf_35 : decode cX12_needOf 35 = .ok (.iload_n 3, 1) := by decide +kernel
theorem dX12_needOf_36 : decode cX12_needOf 36 = .ok (.if_icmp .le 13, 3) := by decide +kernel
theorem dX12_needOf_39 : decode cX12_needOf 39 = .ok (.aload_n 0, 1) := by decide +kernel
theorem dX12_needOf_40 : decode cX12_needOf 40 = .ok (.aload_n 1, 1) := by decide +kernel
theorem dX12_needOf_41 : decode cX12_needOf 41 = .ok (.iload 4, 2) := by decide +kernel
theorem dX12_needOf_43 : decode cX12_needOf 43 = .ok (.invokevirtual 286, 3) := by decide +kernel
theorem dX12_needOf_46 : decode cX12_needOf 46 = .ok (.goto 4, 3) := by decide +kernel
theorem dX12_needOf_49 : decode cX12_needOf 49 = .ok (.iload_n 3, 1) := by decide +kernel
theorem dX12_needOf_50 : decode cX12_needOf 50 = .ok (.istore_n 3, 1) := by decide +kernel
theorem dX12_needOf_51 : decode cX12_needOf 51 = .ok (.iinc 4 1, 3) := by decide +kernel
theorem dX12_needOf_54 : decode cX12_needOf 54 = .ok (.goto (-45), 3) := by decide +kernel
theorem dX12_needOf_57 : decode cX12_needOf 57 = .ok (.iload_n 3, 1) := by decide +kernel
theorem dX12_needOf_58 : decode cX12_needOf 58 = .ok (.i2l, 1) := by decide +kernel
theorem dX12_needOf_59 : decode cX12_needOf 59 = .ok (.aload_n 0, 1) := by decide +kernel
theorem dX12_needOf_60 : decode cX12_needOf 60 = .ok (.getfield 243, 3) := by decide +kernel
theorem dX12_needOf_63 : decode cX12_needOf 63 = .ok (.i2l, 1) := by decide +kernel
theorem dX12_needOf_64 : decode cX12_needOf 64 = .ok (.lmul, 1) := by decide +kernel
theorem dX12_needOf_65 : decode cX12_needOf 65 = .ok (.bipush 100, 2) := by decide +kernel
theorem dX12_needOf_67 : decode cX12_needOf 67 = .ok (.aload_n 0, 1) := by decide +kernel
theorem dX12_needOf_68 : decode cX12_needOf 68 = .ok (.getfield 17, 3) := by decide +kernel
theorem dX12_needOf_71 : decode cX12_needOf 71 = .ok (.iconst 0, 1) := by decide +kernel
theorem dX12_needOf_72 : decode cX12_needOf 72 = .ok (.iaload, 1) := by decide +kernel
theorem dX12_needOf_73 : decode cX12_needOf 73 = .ok (.iadd, 1) := by decide +kernel
theorem dX12_needOf_74 : decode cX12_needOf 74 = .ok (.i2l, 1) := by decide +kernel
theorem dX12_needOf_75 : decode cX12_needOf 75 = .ok (.lmul, 1) := by decide +kernel
theorem dX12_needOf_76 : decode cX12_needOf 76 = .ok (.lstore 4, 2) := by decide +kernel
theorem dX12_needOf_78 : decode cX12_needOf 78 = .ok (.lload 4, 2) := by decide +kernel
theorem dX12_needOf_80 : decode cX12_needOf 80 = .ok (.ldc2_w 289, 3) := by decide +kernel
theorem dX12_needOf_83 : decode cX12_needOf 83 = .ok (.ladd, 1) := by decide +kernel
theorem dX12_needOf_84 : decode cX12_needOf 84 = .ok (.ldc2_w 291, 3) := by decide +kernel
theorem dX12_needOf_87 : decode cX12_needOf 87 = .ok (.ldiv, 1) := by decide +kernel
theorem dX12_needOf_88 : decode cX12_needOf 88 = .ok (.l2i, 1) := by decide +kernel
theorem dX12_needOf_89 : decode cX12_needOf 89 = .ok (.ireturn, 1) := by decide +kernel
theorem dX12_wantOf_0 : decode cX12_wantOf 0 = .ok (.aload_n 0, 1) := by decide +kernel
theorem dX12_wantOf_1 : decode cX12_wantOf 1 = .ok (.iload_n 2, 1) := by decide +kernel
theorem dX12_wantOf_2 : decode cX12_wantOf 2 = .ok (.aload_n 0, 1) := by decide +kernel
theorem dX12_wantOf_3 : decode cX12_wantOf 3 = .ok (.aload_n 1, 1) := by decide +kernel
theorem dX12_wantOf_4 : decode cX12_wantOf 4 = .ok (.iload_n 2, 1) := by decide +kernel
theorem dX12_wantOf_5 : decode cX12_wantOf 5 = .ok (.invokevirtual 293, 3) := by decide +kernel
theorem dX12_wantOf_8 : decode cX12_wantOf 8 = .ok (.invokevirtual 296, 3) := by decide +kernel
theorem dX12_wantOf_11 : decode cX12_wantOf 11 = .ok (.istore_n 3, 1) := by decide +kernel
theorem dX12_wantOf_12 : decode cX12_wantOf 12 = .ok (.aload_n 1, 1) := by decide +kernel
theorem dX12_wantOf_13 : decode cX12_wantOf 13 = .ok (.bipush 6, 2) := by decide +kernel
theorem dX12_wantOf_15 : decode cX12_wantOf 15 = .ok (.iload_n 2, 1) := by decide +kernel
theorem dX12_wantOf_16 : decode cX12_wantOf 16 = .ok (.iadd, 1) := by decide +kernel
theorem dX12_wantOf_17 : decode cX12_wantOf 17 = .ok (.iaload, 1) := by decide +kernel
theorem dX12_wantOf_18 : decode cX12_wantOf 18 = .ok (.ifCond .gt 12, 3) := by decide +kernel
theorem dX12_wantOf_21 : decode cX12_wantOf 21 = .ok (.iload_n 3, 1) := by decide +kernel
theorem dX12_wantOf_22 : decode cX12_wantOf 22 = .ok (.aload_n 0, 1) := by decide +kernel
theorem dX12_wantOf_23 : decode cX12_wantOf 23 = .ok (.iload_n 2, 1) := by decide +kernel
theorem dX12_wantOf_24 : decode cX12_wantOf 24 = .ok (.invokevirtual 246, 3) := by decide +kernel
theorem dX12_wantOf_27 : decode cX12_wantOf 27 = .ok (.if_icmp .le 11, 3) := by decide +kernel
theorem dX12_wantOf_30 : decode cX12_wantOf 30 = .ok (.aload_n 0, 1) := by decide +kernel
theorem dX12_wantOf_31 : decode cX12_wantOf 31 = .ok (.iload_n 2, 1) := by decide +kernel
theorem dX12_wantOf_32 : decode cX12_wantOf 32 = .ok (.invokevirtual 246, 3) := by decide +kernel
theorem dX12_wantOf_35 : decode cX12_wantOf 35 = .ok (.goto 4, 3) := by decide +kernel
theorem dX12_wantOf_38 : decode cX12_wantOf 38 = .ok (.iload_n 3, 1) := by decide +kernel
theorem dX12_wantOf_39 : decode cX12_wantOf 39 = .ok (.ireturn, 1) := by decide +kernel
theorem dX12_hasRest_0 : decode cX12_hasRest 0 = .ok (.iconst 0, 1) := by decide +kernel
theorem dX12_hasRest_1 : decode cX12_hasRest 1 = .ok (.istore_n 3, 1) := by decide +kernel
theorem dX12_hasRest_2 : decode cX12_hasRest 2 = .ok (.iload_n 3, 1) := by decide +kernel
theorem dX12_hasRest_3 : decode cX12_hasRest 3 = .ok (.aload_n 0, 1) := by decide +kernel
theorem dX12_hasRest_4 : decode cX12_hasRest 4 = .ok (.getfield 237, 3) := by decide +kernel
theorem dX12_hasRest_7 : decode cX12_hasRest 7 = .ok (.if_icmp .ge 30, 3) := by decide +kernel
theorem dX12_hasRest_10 : decode cX12_hasRest 10 = .ok (.aload_n 1, 1) := by decide +kernel
theorem dX12_hasRest_11 : decode cX12_hasRest 11 = .ok (.bipush 21, 2) := by decide +kernel
theorem dX12_hasRest_13 : decode cX12_hasRest 13 = .ok (.iload_n 3, 1) := by decide +kernel
theorem dX12_hasRest_14 : decode cX12_hasRest 14 = .ok (.iadd, 1) := by decide +kernel
theorem dX12_hasRest_15 : decode cX12_hasRest 15 = .ok (.iaload, 1) := by decide +kernel
theorem dX12_hasRest_16 : decode cX12_hasRest 16 = .ok (.iload_n 2, 1) := by decide +kernel
theorem dX12_hasRest_17 : decode cX12_hasRest 17 = .ok (.if_icmp .ne 14, 3) := by decide +kernel
theorem dX12_hasRest_20 : decode cX12_hasRest 20 = .ok (.aload_n 1, 1) := by decide +kernel
theorem dX12_hasRest_21 : decode cX12_hasRest 21 = .ok (.bipush 25, 2) := by decide +kernel
theorem dX12_hasRest_23 : decode cX12_hasRest 23 = .ok (.iload_n 3, 1) := by decide +kernel
theorem dX12_hasRest_24 : decode cX12_hasRest 24 = .ok (.iadd, 1) := by decide +kernel
theorem dX12_hasRest_25 : decode cX12_hasRest 25 = .ok (.iaload, 1) := by decide +kernel
theorem dX12_hasRest_26 : decode cX12_hasRest 26 = .ok (.ifCond .le 5, 3) := by decide +kernel
theorem dX12_hasRest_29 : decode cX12_hasRest 29 = .ok (.iconst 1, 1) := by decide +kernel
theorem dX12_hasRest_30 : decode cX12_hasRest 30 = .ok (.ireturn, 1) := by decide +kernel
theorem dX12_hasRest_31 : decode cX12_hasRest 31 = .ok (.iinc 3 1, 3) := by decide +kernel
theorem dX12_hasRest_34 : decode cX12_hasRest 34 = .ok (.goto (-32), 3) := by decide +kernel
theorem dX12_hasRest_37 : decode cX12_hasRest 37 = .ok (.iconst 0, 1) := by decide +kernel
theorem dX12_hasRest_38 : decode cX12_hasRest 38 = .ok (.ireturn, 1) := by decide +kernel
theorem dX12_begins_0 : decode cX12_begins 0 = .ok (.iconst 0, 1) := by decide +kernel
theorem dX12_begins_1 : decode cX12_begins 1 = .ok (.istore_n 2, 1) := by decide +kernel
theorem dX12_begins_2 : decode cX12_begins 2 = .ok (.iload_n 2, 1) := by decide +kernel
theorem dX12_begins_3 : decode cX12_begins 3 = .ok (.aload_n 0, 1) := by decide +kernel
theorem dX12_begins_4 : decode cX12_begins 4 = .ok (.getfield 237, 3) := by decide +kernel
theorem dX12_begins_7 : decode cX12_begins 7 = .ok (.if_icmp .ge 73, 3) := by decide +kernel
theorem dX12_begins_10 : decode cX12_begins 10 = .ok (.aload_n 1, 1) := by decide +kernel
theorem dX12_begins_11 : decode cX12_begins 11 = .ok (.bipush 37, 2) := by decide +kernel
theorem dX12_begins_13 : decode cX12_begins 13 = .ok (.iload_n 2, 1) := by decide +kernel
theorem dX12_begins_14 : decode cX12_begins 14 = .ok (.iadd, 1) := by decide +kernel
theorem dX12_begins_15 : decode cX12_begins 15 = .ok (.iaload, 1) := by decide +kernel
theorem dX12_begins_16 : decode cX12_begins 16 = .ok (.iconst 1, 1) := by decide +kernel
theorem dX12_begins_17 : decode cX12_begins 17 = .ok (.if_icmp .eq 57, 3) := by decide +kernel
theorem dX12_begins_20 : decode cX12_begins 20 = .ok (.aload_n 1, 1) := by decide +kernel
theorem dX12_begins_21 : decode cX12_begins 21 = .ok (.bipush 41, 2) := by decide +kernel
theorem dX12_begins_23 : decode cX12_begins 23 = .ok (.iaload, 1) := by decide +kernel
theorem dX12_begins_24 : decode cX12_begins 24 = .ok (.aload_n 0, 1) := by decide +kernel
theorem dX12_begins_25 : decode cX12_begins 25 = .ok (.getfield 35, 3) := by decide +kernel
theorem dX12_begins_28 : decode cX12_begins 28 = .ok (.iconst 2, 1) := by decide +kernel
theorem dX12_begins_29 : decode cX12_begins 29 = .ok (.iload_n 2, 1) := by decide +kernel
theorem dX12_begins_30 : decode cX12_begins 30 = .ok (.imul, 1) := by decide +kernel
theorem dX12_begins_31 : decode cX12_begins 31 = .ok (.iconst 1, 1) := by decide +kernel
theorem dX12_begins_32 : decode cX12_begins 32 = .ok (.iadd, 1) := by decide +kernel
theorem dX12_begins_33 : decode cX12_begins 33 = .ok (.iaload, 1) := by decide +kernel
theorem dX12_begins_34 : decode cX12_begins 34 = .ok (.irem, 1) := by decide +kernel
theorem dX12_begins_35 : decode cX12_begins 35 = .ok (.ifCond .eq 6, 3) := by decide +kernel
theorem dX12_begins_38 : decode cX12_begins 38 = .ok (.goto 36, 3) := by decide +kernel
theorem dX12_begins_41 : decode cX12_begins 41 = .ok (.aload_n 1, 1) := by decide +kernel
theorem dX12_begins_42 : decode cX12_begins 42 = .ok (.bipush 25, 2) := by decide +kernel
theorem dX12_begins_44 : decode cX12_begins 44 = .ok (.iload_n 2, 1) := by decide +kernel
theorem dX12_begins_45 : decode cX12_begins 45 = .ok (.iadd, 1) := by decide +kernel
theorem dX12_begins_46 : decode cX12_begins 46 = .ok (.iaload, 1) := by decide +kernel
theorem dX12_begins_47 : decode cX12_begins 47 = .ok (.ifCond .le 13, 3) := by decide +kernel
theorem dX12_begins_50 : decode cX12_begins 50 = .ok (.aload_n 1, 1) := by decide +kernel
theorem dX12_begins_51 : decode cX12_begins 51 = .ok (.bipush 33, 2) := by decide +kernel
theorem dX12_begins_53 : decode cX12_begins 53 = .ok (.iload_n 2, 1) := by decide +kernel
theorem dX12_begins_54 : decode cX12_begins 54 = .ok (.iadd, 1) := by decide +kernel
theorem dX12_begins_55 : decode cX12_begins 55 = .ok (.dup2, 1) := by decide +kernel
theorem dX12_begins_56 : decode cX12_begins 56 = .ok (.iaload, 1) := by decide +kernel
theorem dX12_begins_57 : decode cX12_begins 57 = .ok (.iconst 1, 1) := by decide +kernel
theorem dX12_begins_58 : decode cX12_begins 58 = .ok (.iadd, 1) := by decide +kernel
theorem dX12_begins_59 : decode cX12_begins 59 = .ok (.iastore, 1) := by decide +kernel
theorem dX12_begins_60 : decode cX12_begins 60 = .ok (.aload_n 1, 1) := by decide +kernel
theorem dX12_begins_61 : decode cX12_begins 61 = .ok (.bipush 25, 2) := by decide +kernel
theorem dX12_begins_63 : decode cX12_begins 63 = .ok (.iload_n 2, 1) := by decide +kernel
theorem dX12_begins_64 : decode cX12_begins 64 = .ok (.iadd, 1) := by decide +kernel
theorem dX12_begins_65 : decode cX12_begins 65 = .ok (.aload_n 0, 1) := by decide +kernel
theorem dX12_begins_66 : decode cX12_begins 66 = .ok (.getfield 35, 3) := by decide +kernel
theorem dX12_begins_69 : decode cX12_begins 69 = .ok (.iconst 2, 1) := by decide +kernel
theorem dX12_begins_70 : decode cX12_begins 70 = .ok (.iload_n 2, 1) := by decide +kernel
theorem dX12_begins_71 : decode cX12_begins 71 = .ok (.imul, 1) := by decide +kernel
theorem dX12_begins_72 : decode cX12_begins 72 = .ok (.iaload, 1) := by decide +kernel
theorem dX12_begins_73 : decode cX12_begins 73 = .ok (.iastore, 1) := by decide +kernel
theorem dX12_begins_74 : decode cX12_begins 74 = .ok (.iinc 2 1, 3) := by decide +kernel
theorem dX12_begins_77 : decode cX12_begins 77 = .ok (.goto (-75), 3) := by decide +kernel
theorem dX12_begins_80 : decode cX12_begins 80 = .ok (.iconst 0, 1) := by decide +kernel
theorem dX12_begins_81 : decode cX12_begins 81 = .ok (.istore_n 2, 1) := by decide +kernel
theorem dX12_begins_82 : decode cX12_begins 82 = .ok (.iconst 0, 1) := by decide +kernel
theorem dX12_begins_83 : decode cX12_begins 83 = .ok (.istore_n 3, 1) := by decide +kernel
theorem dX12_begins_84 : decode cX12_begins 84 = .ok (.iload_n 3, 1) := by decide +kernel
theorem dX12_begins_85 : decode cX12_begins 85 = .ok (.aload_n 0, 1) := by decide +kernel
theorem dX12_begins_86 : decode cX12_begins 86 = .ok (.getfield 240, 3) := by decide +kernel
theorem dX12_begins_89 : decode cX12_begins 89 = .ok (.if_icmp .ge 70, 3) := by decide +kernel
theorem dX12_begins_92 : decode cX12_begins 92 = .ok (.aload_n 1, 1) := by decide +kernel
theorem dX12_begins_93 : decode cX12_begins 93 = .ok (.bipush 9, 2) := by decide +kernel
theorem dX12_begins_95 : decode cX12_begins 95 = .ok (.iload_n 3, 1) := by decide +kernel
theorem dX12_begins_96 : decode cX12_begins 96 = .ok (.iadd, 1) := by decide +kernel
theorem dX12_begins_97 : decode cX12_begins 97 = .ok (.iaload, 1) := by decide +kernel
theorem dX12_begins_98 : decode cX12_begins 98 = .ok (.ifCond .eq 55, 3) := by decide +kernel
theorem dX12_begins_101 : decode cX12_begins 101 = .ok (.aload_n 0, 1) := by decide +kernel
theorem dX12_begins_102 : decode cX12_begins 102 = .ok (.aload_n 1, 1) := by decide +kernel
theorem dX12_begins_103 : decode cX12_begins 103 = .ok (.iload_n 3, 1) := by decide +kernel
theorem dX12_begins_104 : decode cX12_begins 104 = .ok (.invokevirtual 299, 3) := by decide +kernel
theorem dX12_begins_107 : decode cX12_begins 107 = .ok (.ifCond .ne 6, 3) := by decide +kernel
theorem dX12_begins_110 : decode cX12_begins 110 = .ok (.goto 43, 3) := by decide +kernel
theorem dX12_begins_113 : decode cX12_begins 113 = .ok (.aload_n 1, 1) := by decide +kernel
theorem dX12_begins_114 : decode cX12_begins 114 = .ok (.bipush 9, 2) := by decide +kernel
theorem dX12_begins_116 : decode cX12_begins 116 = .ok (.iload_n 3, 1) := by decide +kernel
theorem dX12_begins_117 : decode cX12_begins 117 = .ok (.iadd, 1) := by decide +kernel
theorem dX12_begins_118 : decode cX12_begins 118 = .ok (.iconst 0, 1) := by decide +kernel
theorem dX12_begins_119 : decode cX12_begins 119 = .ok (.iastore, 1) := by decide +kernel
theorem dX12_begins_120 : decode cX12_begins 120 = .ok (.iload_n 2, 1) := by decide +kernel
theorem dX12_begins_121 : decode cX12_begins 121 = .ok (.aload_n 0, 1) := by decide +kernel
theorem dX12_begins_122 : decode cX12_begins 122 = .ok (.getfield 23, 3) := by decide +kernel
theorem dX12_begins_125 : decode cX12_begins 125 = .ok (.iconst 4, 1) := by decide +kernel
theorem dX12_begins_126 : decode cX12_begins 126 = .ok (.aload_n 0, 1) := by decide +kernel
theorem dX12_begins_127 : decode cX12_begins 127 = .ok (.iload_n 3, 1) := by decide +kernel
theorem dX12_begins_128 : decode cX12_begins 128 = .ok (.invokevirtual 303, 3) := by decide +kernel
theorem dX12_begins_131 : decode cX12_begins 131 = .ok (.imul, 1) := by decide +kernel
theorem dX12_begins_132 : decode cX12_begins 132 = .ok (.iconst 2, 1) := by decide +kernel
theorem dX12_begins_133 : decode cX12_begins 133 = .ok (.iadd, 1) := by decide +kernel
theorem dX12_begins_134 : decode cX12_begins 134 = .ok (.iaload, 1) := by decide +kernel
theorem dX12_begins_135 : decode cX12_begins 135 = .ok (.iadd, 1) := by decide +kernel
theorem dX12_begins_136 : decode cX12_begins 136 = .ok (.istore_n 2, 1) := by decide +kernel
theorem dX12_begins_137 : decode cX12_begins 137 = .ok (.aload_n 1, 1) := by decide +kernel
theorem dX12_begins_138 : decode cX12_begins 138 = .ok (.bipush 6, 2) := by decide +kernel
theorem dX12_begins_140 : decode cX12_begins 140 = .ok (.aload_n 0, 1) := by decide +kernel
theorem dX12_begins_141 : decode cX12_begins 141 = .ok (.iload_n 3, 1) := by decide +kernel
theorem dX12_begins_142 : decode cX12_begins 142 = .ok (.invokevirtual 303, 3) := by decide +kernel
theorem dX12_begins_145 : decode cX12_begins 145 = .ok (.iadd, 1) := by decide +kernel
theorem dX12_begins_146 : decode cX12_begins 146 = .ok (.aload_n 0, 1) := by decide +kernel
theorem dX12_begins_147 : decode cX12_begins 147 = .ok (.getfield 17, 3) := by decide +kernel
theorem dX12_begins_150 : decode cX12_begins 150 = .ok (.iconst 3, 1) := by decide +kernel
theorem dX12_begins_151 : decode cX12_begins 151 = .ok (.iaload, 1) := by decide +kernel
theorem dX12_begins_152 : decode cX12_begins 152 = .ok (.iastore, 1) := by decide +kernel
theorem dX12_begins_153 : decode cX12_begins 153 = .ok (.iinc 3 1, 3) := by decide +kernel
theorem dX12_begins_156 : decode cX12_begins 156 = .ok (.goto (-72), 3) := by decide +kernel
theorem dX12_begins_159 : decode cX12_begins 159 = .ok (.iload_n 2, 1) := by decide +kernel
theorem dX12_begins_160 : decode cX12_begins 160 = .ok (.ireturn, 1) := by decide +kernel
theorem dX12_chooses_0 : decode cX12_chooses 0 = .ok (.aload_n 0, 1) := by decide +kernel
theorem dX12_chooses_1 : decode cX12_chooses 1 = .ok (.aload_n 1, 1) := by decide +kernel
theorem dX12_chooses_2 : decode cX12_chooses 2 = .ok (.iload_n 2, 1) := by decide +kernel
theorem dX12_chooses_3 : decode cX12_chooses 3 = .ok (.invokevirtual 306, 3) := by decide +kernel
theorem dX12_chooses_6 : decode cX12_chooses 6 = .ok (.istore_n 3, 1) := by decide +kernel
theorem dX12_chooses_7 : decode cX12_chooses 7 = .ok (.iload_n 3, 1) := by decide +kernel
theorem dX12_chooses_8 : decode cX12_chooses 8 = .ok (.aload_n 1, 1) := by decide +kernel
theorem dX12_chooses_9 : decode cX12_chooses 9 = .ok (.iconst 0, 1) := by decide +kernel
theorem dX12_chooses_10 : decode cX12_chooses 10 = .ok (.iload_n 2, 1) := by decide +kernel
theorem dX12_chooses_11 : decode cX12_chooses 11 = .ok (.iadd, 1) := by decide +kernel
theorem dX12_chooses_12 : decode cX12_chooses 12 = .ok (.iaload, 1) := by decide +kernel
theorem dX12_chooses_13 : decode cX12_chooses 13 = .ok (.if_icmp .le 18, 3) := by decide +kernel
theorem dX12_chooses_16 : decode cX12_chooses 16 = .ok (.aload_n 1, 1) := by decide +kernel
theorem dX12_chooses_17 : decode cX12_chooses 17 = .ok (.iconst 0, 1) := by decide +kernel
theorem dX12_chooses_18 : decode cX12_chooses 18 = .ok (.iload_n 2, 1) := by decide +kernel
theorem dX12_chooses_19 : decode cX12_chooses 19 = .ok (.iadd, 1) := by decide +kernel
theorem dX12_chooses_20 : decode cX12_chooses 20 = .ok (.iload_n 3, 1) := by decide +kernel
theorem dX12_chooses_21 : decode cX12_chooses 21 = .ok (.iastore, 1) := by decide +kernel
theorem dX12_chooses_22 : decode cX12_chooses 22 = .ok (.aload_n 1, 1) := by decide +kernel
theorem dX12_chooses_23 : decode cX12_chooses 23 = .ok (.iconst 3, 1) := by decide +kernel
theorem dX12_chooses_24 : decode cX12_chooses 24 = .ok (.iload_n 2, 1) := by decide +kernel
theorem dX12_chooses_25 : decode cX12_chooses 25 = .ok (.iadd, 1) := by decide +kernel
theorem dX12_chooses_26 : decode cX12_chooses 26 = .ok (.iconst 0, 1) := by decide +kernel
theorem dX12_chooses_27 : decode cX12_chooses 27 = .ok (.iastore, 1) := by decide +kernel
theorem dX12_chooses_28 : decode cX12_chooses 28 = .ok (.goto 53, 3) := by decide +kernel
theorem dX12_chooses_31 : decode cX12_chooses 31 = .ok (.iload_n 3, 1) := by decide +kernel
theorem dX12_chooses_32 : decode cX12_chooses 32 = .ok (.aload_n 1, 1) := by decide +kernel
theorem dX12_chooses_33 : decode cX12_chooses 33 = .ok (.iconst 0, 1) := by decide +kernel
theorem dX12_chooses_34 : decode cX12_chooses 34 = .ok (.iload_n 2, 1) := by decide +kernel
theorem dX12_chooses_35 : decode cX12_chooses 35 = .ok (.iadd, 1) := by decide +kernel
theorem dX12_chooses_36 : decode cX12_chooses 36 = .ok (.iaload, 1) := by decide +kernel
theorem dX12_chooses_37 : decode cX12_chooses 37 = .ok (.if_icmp .ge 35, 3) := by decide +kernel
theorem dX12_chooses_40 : decode cX12_chooses 40 = .ok (.aload_n 1, 1) := by decide +kernel
theorem dX12_chooses_41 : decode cX12_chooses 41 = .ok (.iconst 3, 1) := by decide +kernel
theorem dX12_chooses_42 : decode cX12_chooses 42 = .ok (.iload_n 2, 1) := by decide +kernel
theorem dX12_chooses_43 : decode cX12_chooses 43 = .ok (.iadd, 1) := by decide +kernel
theorem dX12_chooses_44 : decode cX12_chooses 44 = .ok (.iaload, 1) := by decide +kernel
theorem dX12_chooses_45 : decode cX12_chooses 45 = .ok (.aload_n 0, 1) := by decide +kernel
theorem dX12_chooses_46 : decode cX12_chooses 46 = .ok (.getfield 17, 3) := by decide +kernel
theorem dX12_chooses_49 : decode cX12_chooses 49 = .ok (.iconst 1, 1) := by decide +kernel
theorem dX12_chooses_50 : decode cX12_chooses 50 = .ok (.iaload, 1) := by decide +kernel
theorem dX12_chooses_51 : decode cX12_chooses 51 = .ok (.if_icmp .lt 21, 3) := by decide +kernel
theorem dX12_chooses_54 : decode cX12_chooses 54 = .ok (.aload_n 1, 1) := by decide +kernel
theorem dX12_chooses_55 : decode cX12_chooses 55 = .ok (.iconst 0, 1) := by decide +kernel
theorem dX12_chooses_56 : decode cX12_chooses 56 = .ok (.iload_n 2, 1) := by decide +kernel
theorem dX12_chooses_57 : decode cX12_chooses 57 = .ok (.iadd, 1) := by decide +kernel
theorem dX12_chooses_58 : decode cX12_chooses 58 = .ok (.dup2, 1) := by decide +kernel
theorem dX12_chooses_59 : decode cX12_chooses 59 = .ok (.iaload, 1) := by decide +kernel
theorem dX12_chooses_60 : decode cX12_chooses 60 = .ok (.iconst 1, 1) := by decide +kernel
theorem dX12_chooses_61 : decode cX12_chooses 61 = .ok (.isub, 1) := by decide +kernel
theorem dX12_chooses_62 : decode cX12_chooses 62 = .ok (.iastore, 1) := by decide +kernel
theorem dX12_chooses_63 : decode cX12_chooses 63 = .ok (.aload_n 1, 1) := by decide +kernel
theorem dX12_chooses_64 : decode cX12_chooses 64 = .ok (.iconst 3, 1) := by decide +kernel
theorem dX12_chooses_65 : decode cX12_chooses 65 = .ok (.iload_n 2, 1) := by decide +kernel
theorem dX12_chooses_66 : decode cX12_chooses 66 = .ok (.iadd, 1) := by decide +kernel
theorem dX12_chooses_67 : decode cX12_chooses 67 = .ok (.iconst 0, 1) := by decide +kernel
theorem dX12_chooses_68 : decode cX12_chooses 68 = .ok (.iastore, 1) := by decide +kernel
theorem dX12_chooses_69 : decode cX12_chooses 69 = .ok (.goto 12, 3) := by decide +kernel
theorem dX12_chooses_72 : decode cX12_chooses 72 = .ok (.aload_n 1, 1) := by decide +kernel
theorem dX12_chooses_73 : decode cX12_chooses 73 = .ok (.iconst 3, 1) := by decide +kernel
theorem dX12_chooses_74 : decode cX12_chooses 74 = .ok (.iload_n 2, 1) := by decide +kernel
theorem dX12_chooses_75 : decode cX12_chooses 75 = .ok (.iadd, 1) := by decide +kernel
theorem dX12_chooses_76 : decode cX12_chooses 76 = .ok (.dup2, 1) := by decide +kernel
theorem dX12_chooses_77 : decode cX12_chooses 77 = .ok (.iaload, 1) := by decide +kernel
theorem dX12_chooses_78 : decode cX12_chooses 78 = .ok (.iconst 1, 1) := by decide +kernel
theorem dX12_chooses_79 : decode cX12_chooses 79 = .ok (.iadd, 1) := by decide +kernel
theorem dX12_chooses_80 : decode cX12_chooses 80 = .ok (.iastore, 1) := by decide +kernel
theorem dX12_chooses_81 : decode cX12_chooses 81 = .ok (.aload_n 1, 1) := by decide +kernel
theorem dX12_chooses_82 : decode cX12_chooses 82 = .ok (.iconst 0, 1) := by decide +kernel
theorem dX12_chooses_83 : decode cX12_chooses 83 = .ok (.iload_n 2, 1) := by decide +kernel
theorem dX12_chooses_84 : decode cX12_chooses 84 = .ok (.iadd, 1) := by decide +kernel
theorem dX12_chooses_85 : decode cX12_chooses 85 = .ok (.aload_n 0, 1) := by decide +kernel
theorem dX12_chooses_86 : decode cX12_chooses 86 = .ok (.aload_n 1, 1) := by decide +kernel
theorem dX12_chooses_87 : decode cX12_chooses 87 = .ok (.iload_n 2, 1) := by decide +kernel
theorem dX12_chooses_88 : decode cX12_chooses 88 = .ok (.aload_n 1, 1) := by decide +kernel
theorem dX12_chooses_89 : decode cX12_chooses 89 = .ok (.iconst 0, 1) := by decide +kernel
theorem dX12_chooses_90 : decode cX12_chooses 90 = .ok (.iload_n 2, 1) := by decide +kernel
theorem dX12_chooses_91 : decode cX12_chooses 91 = .ok (.iadd, 1) := by decide +kernel
theorem dX12_chooses_92 : decode cX12_chooses 92 = .ok (.iaload, 1) := by decide +kernel
theorem dX12_chooses_93 : decode cX12_chooses 93 = .ok (.invokevirtual 309, 3) := by decide +kernel
theorem dX12_chooses_96 : decode cX12_chooses 96 = .ok (.iastore, 1) := by decide +kernel
theorem dX12_chooses_97 : decode cX12_chooses 97 = .ok (.aload_n 1, 1) := by decide +kernel
theorem dX12_chooses_98 : decode cX12_chooses 98 = .ok (.bipush 42, 2) := by decide +kernel
theorem dX12_chooses_100 : decode cX12_chooses 100 = .ok (.iaload, 1) := by decide +kernel
theorem dX12_chooses_101 : decode cX12_chooses 101 = .ok (.aload_n 0, 1) := by decide +kernel
theorem dX12_chooses_102 : decode cX12_chooses 102 = .ok (.getfield 17, 3) := by decide +kernel
theorem dX12_chooses_105 : decode cX12_chooses 105 = .ok (.iconst 4, 1) := by decide +kernel
theorem dX12_chooses_106 : decode cX12_chooses 106 = .ok (.iaload, 1) := by decide +kernel
theorem dX12_chooses_107 : decode cX12_chooses 107 = .ok (.if_icmp .le 20, 3) := by decide +kernel
theorem dX12_chooses_110 : decode cX12_chooses 110 = .ok (.aload_n 1, 1) := by decide +kernel
theorem dX12_chooses_111 : decode cX12_chooses 111 = .ok (.iconst 0, 1) := by decide +kernel
theorem dX12_chooses_112 : decode cX12_chooses 112 = .ok (.iload_n 2, 1) := by decide +kernel
theorem dX12_chooses_113 : decode cX12_chooses 113 = .ok (.iadd, 1) := by decide +kernel
theorem dX12_chooses_114 : decode cX12_chooses 114 = .ok (.iaload, 1) := by decide +kernel
theorem dX12_chooses_115 : decode cX12_chooses 115 = .ok (.ifCond .le 12, 3) := by decide +kernel
theorem dX12_chooses_118 : decode cX12_chooses 118 = .ok (.aload_n 1, 1) := by decide +kernel
theorem dX12_chooses_119 : decode cX12_chooses 119 = .ok (.iconst 0, 1) := by decide +kernel
theorem dX12_chooses_120 : decode cX12_chooses 120 = .ok (.iload_n 2, 1) := by decide +kernel
theorem dX12_chooses_121 : decode cX12_chooses 121 = .ok (.iadd, 1) := by decide +kernel
theorem dX12_chooses_122 : decode cX12_chooses 122 = .ok (.dup2, 1) := by decide +kernel
theorem dX12_chooses_123 : decode cX12_chooses 123 = .ok (.iaload, 1) := by decide +kernel
theorem dX12_chooses_124 : decode cX12_chooses 124 = .ok (.iconst 1, 1) := by decide +kernel
theorem dX12_chooses_125 : decode cX12_chooses 125 = .ok (.isub, 1) := by decide +kernel
theorem dX12_chooses_126 : decode cX12_chooses 126 = .ok (.iastore, 1) := by decide +kernel
theorem dX12_chooses_127 : decode cX12_chooses 127 = .ok (.aload_n 1, 1) := by decide +kernel
theorem dX12_chooses_128 : decode cX12_chooses 128 = .ok (.bipush 6, 2) := by decide +kernel
theorem dX12_chooses_130 : decode cX12_chooses 130 = .ok (.iload_n 2, 1) := by decide +kernel
theorem dX12_chooses_131 : decode cX12_chooses 131 = .ok (.iadd, 1) := by decide +kernel
theorem dX12_chooses_132 : decode cX12_chooses 132 = .ok (.iaload, 1) := by decide +kernel
theorem dX12_chooses_133 : decode cX12_chooses 133 = .ok (.ifCond .le 13, 3) := by decide +kernel
theorem dX12_chooses_136 : decode cX12_chooses 136 = .ok (.aload_n 1, 1) := by decide +kernel
theorem dX12_chooses_137 : decode cX12_chooses 137 = .ok (.bipush 6, 2) := by decide +kernel
theorem dX12_chooses_139 : decode cX12_chooses 139 = .ok (.iload_n 2, 1) := by decide +kernel
theorem dX12_chooses_140 : decode cX12_chooses 140 = .ok (.iadd, 1) := by decide +kernel
theorem dX12_chooses_141 : decode cX12_chooses 141 = .ok (.dup2, 1) := by decide +kernel
theorem dX12_chooses_142 : decode cX12_chooses 142 = .ok (.iaload, 1) := by decide +kernel
theorem dX12_chooses_143 : decode cX12_chooses 143 = .ok (.iconst 1, 1) := by decide +kernel
theorem dX12_chooses_144 : decode cX12_chooses 144 = .ok (.isub, 1) := by decide +kernel
theorem dX12_chooses_145 : decode cX12_chooses 145 = .ok (.iastore, 1) := by decide +kernel
theorem dX12_chooses_146 : decode cX12_chooses 146 = .ok (.return_, 1) := by decide +kernel
theorem dX12_nextOn_0 : decode cX12_nextOn 0 = .ok (.iconst (-1), 1) := by decide +kernel
theorem dX12_nextOn_1 : decode cX12_nextOn 1 = .ok (.istore_n 3, 1) := by decide +kernel
theorem dX12_nextOn_2 : decode cX12_nextOn 2 = .ok (.iconst 0, 1) := by decide +kernel
theorem dX12_nextOn_3 : decode cX12_nextOn 3 = .ok (.istore 4, 2) := by decide +kernel
theorem dX12_nextOn_5 : decode cX12_nextOn 5 = .ok (.iconst 0, 1) := by decide +kernel
theorem dX12_nextOn_6 : decode cX12_nextOn 6 = .ok (.istore 5, 2) := by decide +kernel
theorem dX12_nextOn_8 : decode cX12_nextOn 8 = .ok (.iload 5, 2) := by decide +kernel
theorem dX12_nextOn_10 : decode cX12_nextOn 10 = .ok (.aload_n 0, 1) := by decide +kernel
theorem dX12_nextOn_11 : decode cX12_nextOn 11 = .ok (.getfield 237, 3) := by decide +kernel
theorem dX12_nextOn_14 : decode cX12_nextOn 14 = .ok (.if_icmp .ge 85, 3) := by decide +kernel
theorem dX12_nextOn_17 : decode cX12_nextOn 17 = .ok (.aload_n 1, 1) := by decide +kernel
theorem dX12_nextOn_18 : decode cX12_nextOn 18 = .ok (.bipush 21, 2) := by decide +kernel
theorem dX12_nextOn_20 : decode cX12_nextOn 20 = .ok (.iload 5, 2) := by decide +kernel
theorem dX12_nextOn_22 : decode cX12_nextOn 22 = .ok (.iadd, 1) := by decide +kernel
theorem dX12_nextOn_23 : decode cX12_nextOn 23 = .ok (.iaload, 1) := by decide +kernel
theorem dX12_nextOn_24 : decode cX12_nextOn 24 = .ok (.iload_n 2, 1) := by decide +kernel
theorem dX12_nextOn_25 : decode cX12_nextOn 25 = .ok (.if_icmp .ne 68, 3) := by decide +kernel
theorem dX12_nextOn_28 : decode cX12_nextOn 28 = .ok (.aload_n 1, 1) := by decide +kernel
theorem dX12_nextOn_29 : decode cX12_nextOn 29 = .ok (.bipush 25, 2) := by decide +kernel
theorem dX12_nextOn_31 : decode cX12_nextOn 31 = .ok (.iload 5, 2) := by decide +kernel
theorem dX12_nextOn_33 : decode cX12_nextOn 33 = .ok (.iadd, 1) := by decide +kernel
theorem dX12_nextOn_34 : decode cX12_nextOn 34 = .ok (.iaload, 1) := by decide +kernel
theorem dX12_nextOn_35 : decode cX12_nextOn 35 = .ok (.ifCond .ne 6, 3) := by decide +kernel
theorem dX12_nextOn_38 : decode cX12_nextOn 38 = .ok (.goto 55, 3) := by decide +kernel
theorem dX12_nextOn_41 : decode cX12_nextOn 41 = .ok (.aload_n 0, 1) := by decide +kernel
theorem dX12_nextOn_42 : decode cX12_nextOn 42 = .ok (.getfield 35, 3) := by decide +kernel
theorem dX12_nextOn_45 : decode cX12_nextOn 45 = .ok (.iconst 2, 1) := by decide +kernel
theorem dX12_nextOn_46 : decode cX12_nextOn 46 = .ok (.iload 5, 2) := by decide +kernel
theorem dX12_nextOn_48 : decode cX12_nextOn 48 = .ok (.imul, 1) := by decide +kernel
theorem dX12_nextOn_49 : decode cX12_nextOn 49 = .ok (.iconst 1, 1) := by decide +kernel
theorem dX12_nextOn_50 : decode cX12_nextOn 50 = .ok (.iadd, 1) := by decide +kernel
theorem dX12_nextOn_51 : decode cX12_nextOn 51 = .ok (.iaload, 1) := by decide +kernel
theorem dX12_nextOn_52 : decode cX12_nextOn 52 = .ok (.aload_n 1, 1) := by decide +kernel
theorem dX12_nextOn_53 : decode cX12_nextOn 53 = .ok (.bipush 41, 2) := by decide +kernel
theorem dX12_nextOn_55 : decode cX12_nextOn 55 = .ok (.iaload, 1) := by decide +kernel
theorem dX12_nextOn_56 : decode cX12_nextOn 56 = .ok (.aload_n 0, 1) := by decide +kernel
theorem dX12_nextOn_57 : decode cX12_nextOn 57 = .ok (.getfield 35, 3) := by decide +kernel
theorem dX12_nextOn_60 : decode cX12_nextOn 60 = .ok (.iconst 2, 1) := by decide +kernel
theorem dX12_nextOn_61 : decode cX12_nextOn 61 = .ok (.iload 5, 2) := by decide +kernel
theorem dX12_nextOn_63 : decode cX12_nextOn 63 = .ok (.imul, 1) := by decide +kernel
theorem dX12_nextOn_64 : decode cX12_nextOn 64 = .ok (.iconst 1, 1) := by decide +kernel
theorem dX12_nextOn_65 : decode cX12_nextOn 65 = .ok (.iadd, 1) := by decide +kernel
theorem dX12_nextOn_66 : decode cX12_nextOn 66 = .ok (.iaload, 1) := by decide +kernel
theorem dX12_nextOn_67 : decode cX12_nextOn 67 = .ok (.irem, 1) := by decide +kernel
theorem dX12_nextOn_68 : decode cX12_nextOn 68 = .ok (.isub, 1) := by decide +kernel
theorem dX12_nextOn_69 : decode cX12_nextOn 69 = .ok (.istore 6, 2) := by decide +kernel
theorem dX12_nextOn_71 : decode cX12_nextOn 71 = .ok (.iload_n 3, 1) := by decide +kernel
theorem dX12_nextOn_72 : decode cX12_nextOn 72 = .ok (.iconst (-1), 1) := by decide +kernel
theorem dX12_nextOn_73 : decode cX12_nextOn 73 = .ok (.if_icmp .eq 13, 3) := by decide +kernel
theorem dX12_nextOn_76 : decode cX12_nextOn 76 = .ok (.iload 6, 2) := by decide +kernel
theorem dX12_nextOn_78 : decode cX12_nextOn 78 = .ok (.iload 4, 2) := by decide +kernel
theorem dX12_nextOn_80 : decode cX12_nextOn 80 = .ok (.if_icmp .lt 6, 3) := by decide +kernel
theorem dX12_nextOn_83 : decode cX12_nextOn 83 = .ok (.goto 10, 3) := by decide +kernel
theorem dX12_nextOn_86 : decode cX12_nextOn 86 = .ok (.iload 5, 2) := by decide +kernel
theorem dX12_nextOn_88 : decode cX12_nextOn 88 = .ok (.istore_n 3, 1) := by decide +kernel
theorem dX12_nextOn_89 : decode cX12_nextOn 89 = .ok (.iload 6, 2) := by decide +kernel
theorem dX12_nextOn_91 : decode cX12_nextOn 91 = .ok (.istore 4, 2) := by decide +kernel
theorem dX12_nextOn_93 : decode cX12_nextOn 93 = .ok (.iinc 5 1, 3) := by decide +kernel
theorem dX12_nextOn_96 : decode cX12_nextOn 96 = .ok (.goto (-88), 3) := by decide +kernel
theorem dX12_nextOn_99 : decode cX12_nextOn 99 = .ok (.iload_n 3, 1) := by decide +kernel
theorem dX12_nextOn_100 : decode cX12_nextOn 100 = .ok (.ireturn, 1) := by decide +kernel
theorem dX12_works_0 : decode cX12_works 0 = .ok (.aload_n 0, 1) := by decide +kernel
theorem dX12_works_1 : decode cX12_works 1 = .ok (.iload_n 2, 1) := by decide +kernel
theorem dX12_works_2 : decode cX12_works 2 = .ok (.invokevirtual 303, 3) := by decide +kernel
theorem dX12_works_5 : decode cX12_works 5 = .ok (.istore_n 3, 1) := by decide +kernel
theorem dX12_works_6 : decode cX12_works 6 = .ok (.aload_n 0, 1) := by decide +kernel
theorem dX12_works_7 : decode cX12_works 7 = .ok (.iload_n 3, 1) := by decide +kernel
theorem dX12_works_8 : decode cX12_works 8 = .ok (.aload_n 1, 1) := by decide +kernel
theorem dX12_works_9 : decode cX12_works 9 = .ok (.iconst 0, 1) := by decide +kernel
theorem dX12_works_10 : decode cX12_works 10 = .ok (.iload_n 3, 1) := by decide +kernel
theorem dX12_works_11 : decode cX12_works 11 = .ok (.iadd, 1) := by decide +kernel
theorem dX12_works_12 : decode cX12_works 12 = .ok (.iaload, 1) := by decide +kernel
theorem dX12_works_13 : decode cX12_works 13 = .ok (.invokevirtual 249, 3) := by decide +kernel
theorem dX12_works_16 : decode cX12_works 16 = .ok (.istore 4, 2) := by decide +kernel
theorem dX12_works_18 : decode cX12_works 18 = .ok (.iconst 0, 1) := by decide +kernel
theorem dX12_works_19 : decode cX12_works 19 = .ok (.istore 5, 2) := by decide +kernel
theorem dX12_works_21 : decode cX12_works 21 = .ok (.aload_n 0, 1) := by decide +kernel
theorem dX12_works_22 : decode cX12_works 22 = .ok (.aload_n 1, 1) := by decide +kernel
theorem dX12_works_23 : decode cX12_works 23 = .ok (.iload_n 2, 1) := by decide +kernel
theorem dX12_works_24 : decode cX12_works 24 = .ok (.invokevirtual 313, 3) := by decide +kernel
theorem dX12_works_27 : decode cX12_works 27 = .ok (.istore 6, 2) := by decide +kernel
theorem dX12_works_29 : decode cX12_works 29 = .ok (.iload 4, 2) := by decide +kernel
theorem dX12_works_31 : decode cX12_works 31 = .ok (.ifCond .le 84, 3) := by decide +kernel
theorem dX12_works_34 : decode cX12_works 34 = .ok (.iload 6, 2) := by decide +kernel
theorem dX12_works_36 : decode cX12_works 36 = .ok (.iconst (-1), 1) := by decide +kernel
theorem dX12_works_37 : decode cX12_works 37 = .ok (.if_icmp .eq 78, 3) := by decide +kernel
theorem dX12_works_40 : decode cX12_works 40 = .ok (.aload_n 1, 1) := by decide +kernel
theorem dX12_works_41 : decode cX12_works 41 = .ok (.bipush 25, 2) := by decide +kernel
theorem dX12_works_43 : decode cX12_works 43 = .ok (.iload 6, 2) := by decide +kernel
theorem dX12_works_45 : decode cX12_works 45 = .ok (.iadd, 1) := by decide +kernel
theorem dX12_works_46 : decode cX12_works 46 = .ok (.iaload, 1) := by decide +kernel
theorem dX12_works_47 : decode cX12_works 47 = .ok (.iload 4, 2) := by decide +kernel
theorem dX12_works_49 : decode cX12_works 49 = .ok (.if_icmp .ge 13, 3) := by decide +kernel
theorem dX12_works_52 : decode cX12_works 52 = .ok (.aload_n 1, 1) := by decide +kernel
theorem dX12_works_53 : decode cX12_works 53 = .ok (.bipush 25, 2) := by decide +kernel
theorem dX12_works_55 : decode cX12_works 55 = .ok (.iload 6, 2) := by decide +kernel
theorem dX12_works_57 : decode cX12_works 57 = .ok (.iadd, 1) := by decide +kernel
theorem dX12_works_58 : decode cX12_works 58 = .ok (.iaload, 1) := by decide +kernel
theorem dX12_works_59 : decode cX12_works 59 = .ok (.goto 5, 3) := by decide +kernel
theorem dX12_works_62 : decode cX12_works 62 = .ok (.iload 4, 2) := by decide +kernel
theorem dX12_works_64 : decode cX12_works 64 = .ok (.istore 7, 2) := by decide +kernel
theorem dX12_works_66 : decode cX12_works 66 = .ok (.aload_n 1, 1) := by decide +kernel
theorem dX12_works_67 : decode cX12_works 67 = .ok (.bipush 25, 2) := by decide +kernel
theorem dX12_works_69 : decode cX12_works 69 = .ok (.iload 6, 2) := by decide +kernel
theorem dX12_works_71 : decode cX12_works 71 = .ok (.iadd, 1) := by decide +kernel
theorem dX12_works_72 : decode cX12_works 72 = .ok (.dup2, 1) := by decide +kernel
theorem dX12_works_73 : decode cX12_works 73 = .ok (.iaload, 1) := by decide +kernel
theorem dX12_works_74 : decode cX12_works 74 = .ok (.iload 7, 2) := by decide +kernel
theorem dX12_works_76 : decode cX12_works 76 = .ok (.isub, 1) := by decide +kernel
theorem dX12_works_77 : decode cX12_works 77 = .ok (.iastore, 1) := by decide +kernel
theorem dX12_works_78 : decode cX12_works 78 = .ok (.aload_n 0, 1) := by decide +kernel
theorem dX12_works_79 : decode cX12_works 79 = .ok (.getfield 79, 3) := by decide +kernel
theorem dX12_works_82 : decode cX12_works 82 = .ok (.iload 6, 2) := by decide +kernel
theorem dX12_works_84 : decode cX12_works 84 = .ok (.dup2, 1) := by decide +kernel
theorem dX12_works_85 : decode cX12_works 85 = .ok (.iaload, 1) := by decide +kernel
theorem dX12_works_86 : decode cX12_works 86 = .ok (.iload 7, 2) := by decide +kernel
theorem dX12_works_88 : decode cX12_works 88 = .ok (.iadd, 1) := by decide +kernel
theorem dX12_works_89 : decode cX12_works 89 = .ok (.iastore, 1) := by decide +kernel
theorem dX12_works_90 : decode cX12_works 90 = .ok (.iload 5, 2) := by decide +kernel
theorem dX12_works_92 : decode cX12_works 92 = .ok (.iload 7, 2) := by decide +kernel
theorem dX12_works_94 : decode cX12_works 94 = .ok (.iadd, 1) := by decide +kernel
theorem dX12_works_95 : decode cX12_works 95 = .ok (.istore 5, 2) := by decide +kernel
theorem dX12_works_97 : decode cX12_works 97 = .ok (.iload 4, 2) := by decide +kernel
theorem dX12_works_99 : decode cX12_works 99 = .ok (.iload 7, 2) := by decide +kernel
theorem dX12_works_101 : decode cX12_works 101 = .ok (.isub, 1) := by decide +kernel
theorem dX12_works_102 : decode cX12_works 102 = .ok (.istore 4, 2) := by decide +kernel
theorem dX12_works_104 : decode cX12_works 104 = .ok (.aload_n 0, 1) := by decide +kernel
theorem dX12_works_105 : decode cX12_works 105 = .ok (.aload_n 1, 1) := by decide +kernel
theorem dX12_works_106 : decode cX12_works 106 = .ok (.iload_n 2, 1) := by decide +kernel
theorem dX12_works_107 : decode cX12_works 107 = .ok (.invokevirtual 313, 3) := by decide +kernel
theorem dX12_works_110 : decode cX12_works 110 = .ok (.istore 6, 2) := by decide +kernel
theorem dX12_works_112 : decode cX12_works 112 = .ok (.goto (-83), 3) := by decide +kernel
theorem dX12_works_115 : decode cX12_works 115 = .ok (.iload 5, 2) := by decide +kernel
theorem dX12_works_117 : decode cX12_works 117 = .ok (.aload_n 0, 1) := by decide +kernel
theorem dX12_works_118 : decode cX12_works 118 = .ok (.iload_n 3, 1) := by decide +kernel
theorem dX12_works_119 : decode cX12_works 119 = .ok (.aload_n 1, 1) := by decide +kernel
theorem dX12_works_120 : decode cX12_works 120 = .ok (.iconst 0, 1) := by decide +kernel
theorem dX12_works_121 : decode cX12_works 121 = .ok (.iload_n 3, 1) := by decide +kernel
theorem dX12_works_122 : decode cX12_works 122 = .ok (.iadd, 1) := by decide +kernel
theorem dX12_works_123 : decode cX12_works 123 = .ok (.iaload, 1) := by decide +kernel
theorem dX12_works_124 : decode cX12_works 124 = .ok (.invokevirtual 316, 3) := by decide +kernel
theorem dX12_works_127 : decode cX12_works 127 = .ok (.imul, 1) := by decide +kernel
theorem dX12_works_128 : decode cX12_works 128 = .ok (.aload_n 1, 1) := by decide +kernel
theorem dX12_works_129 : decode cX12_works 129 = .ok (.bipush 9, 2) := by decide +kernel
theorem dX12_works_131 : decode cX12_works 131 = .ok (.iload_n 2, 1) := by decide +kernel
theorem dX12_works_132 : decode cX12_works 132 = .ok (.iadd, 1) := by decide +kernel
theorem dX12_works_133 : decode cX12_works 133 = .ok (.iaload, 1) := by decide +kernel
theorem dX12_works_134 : decode cX12_works 134 = .ok (.ifCond .ne 16, 3) := by decide +kernel
theorem dX12_works_137 : decode cX12_works 137 = .ok (.aload_n 0, 1) := by decide +kernel
theorem dX12_works_138 : decode cX12_works 138 = .ok (.getfield 23, 3) := by decide +kernel
theorem dX12_works_141 : decode cX12_works 141 = .ok (.iconst 4, 1) := by decide +kernel
theorem dX12_works_142 : decode cX12_works 142 = .ok (.iload_n 3, 1) := by decide +kernel
theorem dX12_works_143 : decode cX12_works 143 = .ok (.imul, 1) := by decide +kernel
theorem dX12_works_144 : decode cX12_works 144 = .ok (.iconst 1, 1) := by decide +kernel
theorem dX12_works_145 : decode cX12_works 145 = .ok (.iadd, 1) := by decide +kernel
theorem dX12_works_146 : decode cX12_works 146 = .ok (.iaload, 1) := by decide +kernel
theorem dX12_works_147 : decode cX12_works 147 = .ok (.goto 4, 3) := by decide +kernel
theorem dX12_works_150 : decode cX12_works 150 = .ok (.iconst 0, 1) := by decide +kernel
theorem dX12_works_151 : decode cX12_works 151 = .ok (.iadd, 1) := by decide +kernel
theorem dX12_works_152 : decode cX12_works 152 = .ok (.istore 7, 2) := by decide +kernel
theorem dX12_works_154 : decode cX12_works 154 = .ok (.aload_n 1, 1) := by decide +kernel
theorem dX12_works_155 : decode cX12_works 155 = .ok (.bipush 15, 2) := by decide +kernel
theorem dX12_works_157 : decode cX12_works 157 = .ok (.iload_n 2, 1) := by decide +kernel
theorem dX12_works_158 : decode cX12_works 158 = .ok (.iadd, 1) := by decide +kernel
theorem dX12_works_159 : decode cX12_works 159 = .ok (.iload 5, 2) := by decide +kernel
theorem dX12_works_161 : decode cX12_works 161 = .ok (.ifCond .le 7, 3) := by decide +kernel
theorem dX12_works_164 : decode cX12_works 164 = .ok (.iconst 0, 1) := by decide +kernel
theorem dX12_works_165 : decode cX12_works 165 = .ok (.goto 11, 3) := by decide +kernel
theorem dX12_works_168 : decode cX12_works 168 = .ok (.aload_n 1, 1) := by decide +kernel
theorem dX12_works_169 : decode cX12_works 169 = .ok (.bipush 15, 2) := by decide +kernel
theorem dX12_works_171 : decode cX12_works 171 = .ok (.iload_n 2, 1) := by decide +kernel
theorem dX12_works_172 : decode cX12_works 172 = .ok (.iadd, 1) := by decide +kernel
theorem dX12_works_173 : decode cX12_works 173 = .ok (.iaload, 1) := by decide +kernel
theorem dX12_works_174 : decode cX12_works 174 = .ok (.iconst 1, 1) := by decide +kernel
theorem dX12_works_175 : decode cX12_works 175 = .ok (.iadd, 1) := by decide +kernel
theorem dX12_works_176 : decode cX12_works 176 = .ok (.iastore, 1) := by decide +kernel
theorem dX12_works_177 : decode cX12_works 177 = .ok (.iload 5, 2) := by decide +kernel
theorem dX12_works_179 : decode cX12_works 179 = .ok (.ifCond .ne 25, 3) := by decide +kernel
theorem dX12_works_182 : decode cX12_works 182 = .ok (.aload_n 1, 1) := by decide +kernel
theorem dX12_works_183 : decode cX12_works 183 = .ok (.bipush 15, 2) := by decide +kernel
theorem dX12_works_185 : decode cX12_works 185 = .ok (.iload_n 2, 1) := by decide +kernel
theorem dX12_works_186 : decode cX12_works 186 = .ok (.iadd, 1) := by decide +kernel
theorem dX12_works_187 : decode cX12_works 187 = .ok (.iaload, 1) := by decide +kernel
theorem dX12_works_188 : decode cX12_works 188 = .ok (.aload_n 0, 1) := by decide +kernel
theorem dX12_works_189 : decode cX12_works 189 = .ok (.getfield 17, 3) := by decide +kernel
theorem dX12_works_192 : decode cX12_works 192 = .ok (.iconst 2, 1) := by decide +kernel
theorem dX12_works_193 : decode cX12_works 193 = .ok (.iaload, 1) := by decide +kernel
theorem dX12_works_194 : decode cX12_works 194 = .ok (.if_icmp .lt 10, 3) := by decide +kernel
theorem dX12_works_197 : decode cX12_works 197 = .ok (.aload_n 1, 1) := by decide +kernel
theorem dX12_works_198 : decode cX12_works 198 = .ok (.bipush 9, 2) := by decide +kernel
theorem dX12_works_200 : decode cX12_works 200 = .ok (.iload_n 2, 1) := by decide +kernel
theorem dX12_works_201 : decode cX12_works 201 = .ok (.iadd, 1) := by decide +kernel
theorem dX12_works_202 : decode cX12_works 202 = .ok (.iconst 1, 1) := by decide +kernel
theorem dX12_works_203 : decode cX12_works 203 = .ok (.iastore, 1) := by decide +kernel
theorem dX12_works_204 : decode cX12_works 204 = .ok (.iload 7, 2) := by decide +kernel
theorem dX12_works_206 : decode cX12_works 206 = .ok (.ireturn, 1) := by decide +kernel
theorem dX12_ticks_0 : decode cX12_ticks 0 = .ok (.aload_n 0, 1) := by decide +kernel
theorem dX12_ticks_1 : decode cX12_ticks 1 = .ok (.aload_n 1, 1) := by decide +kernel
theorem dX12_ticks_2 : decode cX12_ticks 2 = .ok (.invokevirtual 319, 3) := by decide +kernel
theorem dX12_ticks_5 : decode cX12_ticks 5 = .ok (.istore_n 2, 1) := by decide +kernel
theorem dX12_ticks_6 : decode cX12_ticks 6 = .ok (.iconst 0, 1) := by decide +kernel
theorem dX12_ticks_7 : decode cX12_ticks 7 = .ok (.istore_n 3, 1) := by decide +kernel
theorem dX12_ticks_8 : decode cX12_ticks 8 = .ok (.iload_n 3, 1) := by decide +kernel
theorem dX12_ticks_9 : decode cX12_ticks 9 = .ok (.aload_n 0, 1) := by decide +kernel
theorem dX12_ticks_10 : decode cX12_ticks 10 = .ok (.getfield 234, 3) := by decide +kernel
theorem dX12_ticks_13 : decode cX12_ticks 13 = .ok (.if_icmp .ge 15, 3) := by decide +kernel
theorem dX12_ticks_16 : decode cX12_ticks 16 = .ok (.aload_n 0, 1) := by decide +kernel
theorem dX12_ticks_17 : decode cX12_ticks 17 = .ok (.aload_n 1, 1) := by decide +kernel
theorem dX12_ticks_18 : decode cX12_ticks 18 = .ok (.iload_n 3, 1) := by decide +kernel
theorem dX12_ticks_19 : decode cX12_ticks 19 = .ok (.invokevirtual 323, 3) := by decide +kernel
theorem dX12_ticks_22 : decode cX12_ticks 22 = .ok (.iinc 3 1, 3) := by decide +kernel
theorem dX12_ticks_25 : decode cX12_ticks 25 = .ok (.goto (-17), 3) := by decide +kernel
theorem dX12_ticks_28 : decode cX12_ticks 28 = .ok (.iconst 0, 1) := by decide +kernel
theorem dX12_ticks_29 : decode cX12_ticks 29 = .ok (.istore_n 3, 1) := by decide +kernel
theorem dX12_ticks_30 : decode cX12_ticks 30 = .ok (.iload_n 3, 1) := by decide +kernel
theorem dX12_ticks_31 : decode cX12_ticks 31 = .ok (.aload_n 0, 1) := by decide +kernel
theorem dX12_ticks_32 : decode cX12_ticks 32 = .ok (.getfield 237, 3) := by decide +kernel
theorem dX12_ticks_35 : decode cX12_ticks 35 = .ok (.if_icmp .ge 16, 3) := by decide +kernel
theorem dX12_ticks_38 : decode cX12_ticks 38 = .ok (.aload_n 0, 1) := by decide +kernel
theorem dX12_ticks_39 : decode cX12_ticks 39 = .ok (.getfield 79, 3) := by decide +kernel
theorem dX12_ticks_42 : decode cX12_ticks 42 = .ok (.iload_n 3, 1) := by decide +kernel
theorem dX12_ticks_43 : decode cX12_ticks 43 = .ok (.iconst 0, 1) := by decide +kernel
theorem dX12_ticks_44 : decode cX12_ticks 44 = .ok (.iastore, 1) := by decide +kernel
theorem dX12_ticks_45 : decode cX12_ticks 45 = .ok (.iinc 3 1, 3) := by decide +kernel
theorem dX12_ticks_48 : decode cX12_ticks 48 = .ok (.goto (-18), 3) := by decide +kernel
theorem dX12_ticks_51 : decode cX12_ticks 51 = .ok (.iconst 0, 1) := by decide +kernel
theorem dX12_ticks_52 : decode cX12_ticks 52 = .ok (.istore_n 3, 1) := by decide +kernel
theorem dX12_ticks_53 : decode cX12_ticks 53 = .ok (.iload_n 3, 1) := by decide +kernel
theorem dX12_ticks_54 : decode cX12_ticks 54 = .ok (.aload_n 0, 1) := by decide +kernel
theorem dX12_ticks_55 : decode cX12_ticks 55 = .ok (.getfield 240, 3) := by decide +kernel
theorem dX12_ticks_58 : decode cX12_ticks 58 = .ok (.if_icmp .ge 18, 3) := by decide +kernel
theorem dX12_ticks_61 : decode cX12_ticks 61 = .ok (.iload_n 2, 1) := by decide +kernel
theorem dX12_ticks_62 : decode cX12_ticks 62 = .ok (.aload_n 0, 1) := by decide +kernel
theorem dX12_ticks_63 : decode cX12_ticks 63 = .ok (.aload_n 1, 1) := by decide +kernel
theorem dX12_ticks_64 : decode cX12_ticks 64 = .ok (.iload_n 3, 1) := by decide +kernel
theorem dX12_ticks_65 : decode cX12_ticks 65 = .ok (.invokevirtual 327, 3) := by decide +kernel
theorem dX12_ticks_68 : decode cX12_ticks 68 = .ok (.iadd, 1) := by decide +kernel
theorem dX12_ticks_69 : decode cX12_ticks 69 = .ok (.istore_n 2, 1) := by decide +kernel
theorem dX12_ticks_70 : decode cX12_ticks 70 = .ok (.iinc 3 1, 3) := by decide +kernel
theorem dX12_ticks_73 : decode cX12_ticks 73 = .ok (.goto (-20), 3) := by decide +kernel
theorem dX12_ticks_76 : decode cX12_ticks 76 = .ok (.iconst 0, 1) := by decide +kernel
theorem dX12_ticks_77 : decode cX12_ticks 77 = .ok (.istore_n 3, 1) := by decide +kernel
theorem dX12_ticks_78 : decode cX12_ticks 78 = .ok (.iload_n 3, 1) := by decide +kernel
theorem dX12_ticks_79 : decode cX12_ticks 79 = .ok (.aload_n 0, 1) := by decide +kernel
theorem dX12_ticks_80 : decode cX12_ticks 80 = .ok (.getfield 237, 3) := by decide +kernel
theorem dX12_ticks_83 : decode cX12_ticks 83 = .ok (.if_icmp .ge 43, 3) := by decide +kernel
theorem dX12_ticks_86 : decode cX12_ticks 86 = .ok (.aload_n 1, 1) := by decide +kernel
theorem dX12_ticks_87 : decode cX12_ticks 87 = .ok (.bipush 29, 2) := by decide +kernel
theorem dX12_ticks_89 : decode cX12_ticks 89 = .ok (.iload_n 3, 1) := by decide +kernel
theorem dX12_ticks_90 : decode cX12_ticks 90 = .ok (.iadd, 1) := by decide +kernel
theorem dX12_ticks_91 : decode cX12_ticks 91 = .ok (.bipush 7, 2) := by decide +kernel
theorem dX12_ticks_93 : decode cX12_ticks 93 = .ok (.aload_n 1, 1) := by decide +kernel
theorem dX12_ticks_94 : decode cX12_ticks 94 = .ok (.bipush 29, 2) := by decide +kernel
theorem dX12_ticks_96 : decode cX12_ticks 96 = .ok (.iload_n 3, 1) := by decide +kernel
theorem dX12_ticks_97 : decode cX12_ticks 97 = .ok (.iadd, 1) := by decide +kernel
theorem dX12_ticks_98 : decode cX12_ticks 98 = .ok (.iaload, 1) := by decide +kernel
theorem dX12_ticks_99 : decode cX12_ticks 99 = .ok (.imul, 1) := by decide +kernel
theorem dX12_ticks_100 : decode cX12_ticks 100 = .ok (.aload_n 0, 1) := by decide +kernel
theorem dX12_ticks_101 : decode cX12_ticks 101 = .ok (.getfield 79, 3) := by decide +kernel
theorem dX12_ticks_104 : decode cX12_ticks 104 = .ok (.iload_n 3, 1) := by decide +kernel
theorem dX12_ticks_105 : decode cX12_ticks 105 = .ok (.iaload, 1) := by decide +kernel
theorem dX12_ticks_106 : decode cX12_ticks 106 = .ok (.sipush 1024, 3) := by decide +kernel
theorem dX12_ticks_109 : decode cX12_ticks 109 = .ok (.imul, 1) := by decide +kernel
theorem dX12_ticks_110 : decode cX12_ticks 110 = .ok (.aload_n 0, 1) := by decide +kernel
theorem dX12_ticks_111 : decode cX12_ticks 111 = .ok (.getfield 243, 3) := by decide +kernel
theorem dX12_ticks_114 : decode cX12_ticks 114 = .ok (.idiv, 1) := by decide +kernel
theorem dX12_ticks_115 : decode cX12_ticks 115 = .ok (.iadd, 1) := by decide +kernel
theorem dX12_ticks_116 : decode cX12_ticks 116 = .ok (.bipush 8, 2) := by decide +kernel
theorem dX12_ticks_118 : decode cX12_ticks 118 = .ok (.idiv, 1) := by decide +kernel
theorem dX12_ticks_119 : decode cX12_ticks 119 = .ok (.iastore, 1) := by decide +kernel
theorem dX12_ticks_120 : decode cX12_ticks 120 = .ok (.iinc 3 1, 3) := by decide +kernel
theorem dX12_ticks_123 : decode cX12_ticks 123 = .ok (.goto (-45), 3) := by decide +kernel
theorem dX12_ticks_126 : decode cX12_ticks 126 = .ok (.aload_n 1, 1) := by decide +kernel
theorem dX12_ticks_127 : decode cX12_ticks 127 = .ok (.bipush 42, 2) := by decide +kernel
theorem dX12_ticks_129 : decode cX12_ticks 129 = .ok (.dup2, 1) := by decide +kernel
theorem dX12_ticks_130 : decode cX12_ticks 130 = .ok (.iaload, 1) := by decide +kernel
theorem dX12_ticks_131 : decode cX12_ticks 131 = .ok (.iload_n 2, 1) := by decide +kernel
theorem dX12_ticks_132 : decode cX12_ticks 132 = .ok (.aload_n 1, 1) := by decide +kernel
theorem dX12_ticks_133 : decode cX12_ticks 133 = .ok (.bipush 42, 2) := by decide +kernel
theorem dX12_ticks_135 : decode cX12_ticks 135 = .ok (.iaload, 1) := by decide +kernel
theorem dX12_ticks_136 : decode cX12_ticks 136 = .ok (.aload_n 0, 1) := by decide +kernel
theorem dX12_ticks_137 : decode cX12_ticks 137 = .ok (.getfield 17, 3) := by decide +kernel
theorem dX12_ticks_140 : decode cX12_ticks 140 = .ok (.iconst 5, 1) := by decide +kernel
theorem dX12_ticks_141 : decode cX12_ticks 141 = .ok (.iaload, 1) := by decide +kernel
theorem dX12_ticks_142 : decode cX12_ticks 142 = .ok (.idiv, 1) := by decide +kernel
theorem dX12_ticks_143 : decode cX12_ticks 143 = .ok (.isub, 1) := by decide +kernel
theorem dX12_ticks_144 : decode cX12_ticks 144 = .ok (.iadd, 1) := by decide +kernel
theorem dX12_ticks_145 : decode cX12_ticks 145 = .ok (.iastore, 1) := by decide +kernel
theorem dX12_ticks_146 : decode cX12_ticks 146 = .ok (.aload_n 1, 1) := by decide +kernel
theorem dX12_ticks_147 : decode cX12_ticks 147 = .ok (.bipush 43, 2) := by decide +kernel
theorem dX12_ticks_149 : decode cX12_ticks 149 = .ok (.dup2, 1) := by decide +kernel
theorem dX12_ticks_150 : decode cX12_ticks 150 = .ok (.iaload, 1) := by decide +kernel
theorem dX12_ticks_151 : decode cX12_ticks 151 = .ok (.iload_n 2, 1) := by decide +kernel
theorem dX12_ticks_152 : decode cX12_ticks 152 = .ok (.iadd, 1) := by decide +kernel
theorem dX12_ticks_153 : decode cX12_ticks 153 = .ok (.iastore, 1) := by decide +kernel
theorem dX12_ticks_154 : decode cX12_ticks 154 = .ok (.aload_n 1, 1) := by decide +kernel
theorem dX12_ticks_155 : decode cX12_ticks 155 = .ok (.bipush 41, 2) := by decide +kernel
theorem dX12_ticks_157 : decode cX12_ticks 157 = .ok (.dup2, 1) := by decide +kernel
theorem dX12_ticks_158 : decode cX12_ticks 158 = .ok (.iaload, 1) := by decide +kernel
theorem dX12_ticks_159 : decode cX12_ticks 159 = .ok (.iconst 1, 1) := by decide +kernel
theorem dX12_ticks_160 : decode cX12_ticks 160 = .ok (.iadd, 1) := by decide +kernel
theorem dX12_ticks_161 : decode cX12_ticks 161 = .ok (.iastore, 1) := by decide +kernel
theorem dX12_ticks_162 : decode cX12_ticks 162 = .ok (.iload_n 2, 1) := by decide +kernel
theorem dX12_ticks_163 : decode cX12_ticks 163 = .ok (.ireturn, 1) := by decide +kernel
theorem dX12_remember_0 : decode cX12_remember 0 = .ok (.aload_n 0, 1) := by decide +kernel
theorem dX12_remember_1 : decode cX12_remember 1 = .ok (.getfield 260, 3) := by decide +kernel
theorem dX12_remember_4 : decode cX12_remember 4 = .ok (.bipush 40, 2) := by decide +kernel
theorem dX12_remember_6 : decode cX12_remember 6 = .ok (.if_icmp .ne 19, 3) := by decide +kernel
theorem dX12_remember_9 : decode cX12_remember 9 = .ok (.aload_n 0, 1) := by decide +kernel
theorem dX12_remember_10 : decode cX12_remember 10 = .ok (.aload_n 0, 1) := by decide +kernel
theorem dX12_remember_11 : decode cX12_remember 11 = .ok (.getfield 330, 3) := by decide +kernel
theorem dX12_remember_14 : decode cX12_remember 14 = .ok (.iconst 1, 1) := by decide +kernel
theorem dX12_remember_15 : decode cX12_remember 15 = .ok (.iadd, 1) := by decide +kernel
theorem dX12_remember_16 : decode cX12_remember 16 = .ok (.bipush 40, 2) := by decide +kernel
theorem dX12_remember_18 : decode cX12_remember 18 = .ok (.irem, 1) := by decide +kernel
theorem dX12_remember_19 : decode cX12_remember 19 = .ok (.putfield 330, 3) := by decide +kernel
theorem dX12_remember_22 : decode cX12_remember 22 = .ok (.goto 13, 3) := by decide +kernel
theorem dX12_remember_25 : decode cX12_remember 25 = .ok (.aload_n 0, 1) := by decide +kernel
theorem dX12_remember_26 : decode cX12_remember 26 = .ok (.dup, 1) := by decide +kernel
theorem dX12_remember_27 : decode cX12_remember 27 = .ok (.getfield 260, 3) := by decide +kernel
theorem dX12_remember_30 : decode cX12_remember 30 = .ok (.iconst 1, 1) := by decide +kernel
theorem dX12_remember_31 : decode cX12_remember 31 = .ok (.iadd, 1) := by decide +kernel
theorem dX12_remember_32 : decode cX12_remember 32 = .ok (.putfield 260, 3) := by decide +kernel
theorem dX12_remember_35 : decode cX12_remember 35 = .ok (.aload_n 0, 1) := by decide +kernel
theorem dX12_remember_36 : decode cX12_remember 36 = .ok (.getfield 63, 3) := by decide +kernel
theorem dX12_remember_39 : decode cX12_remember 39 = .ok (.iconst 0, 1) := by decide +kernel
theorem dX12_remember_40 : decode cX12_remember 40 = .ok (.aload_n 0, 1) := by decide +kernel
theorem dX12_remember_41 : decode cX12_remember 41 = .ok (.getfield 72, 3) := by decide +kernel
theorem dX12_remember_44 : decode cX12_remember 44 = .ok (.sipush 256, 3) := by decide +kernel
theorem dX12_remember_47 : decode cX12_remember 47 = .ok (.aload_n 0, 1) := by decide +kernel
theorem dX12_remember_48 : decode cX12_remember 48 = .ok (.getfield 330, 3) := by decide +kernel
theorem dX12_remember_51 : decode cX12_remember 51 = .ok (.aload_n 0, 1) := by decide +kernel
theorem dX12_remember_52 : decode cX12_remember 52 = .ok (.getfield 260, 3) := by decide +kernel
theorem dX12_remember_55 : decode cX12_remember 55 = .ok (.iadd, 1) := by decide +kernel
theorem dX12_remember_56 : decode cX12_remember 56 = .ok (.iconst 1, 1) := by decide +kernel
theorem dX12_remember_57 : decode cX12_remember 57 = .ok (.isub, 1) := by decide +kernel
theorem dX12_remember_58 : decode cX12_remember 58 = .ok (.bipush 40, 2) := by decide +kernel
theorem dX12_remember_60 : decode cX12_remember 60 = .ok (.irem, 1) := by decide +kernel
theorem dX12_remember_61 : decode cX12_remember 61 = .ok (.imul, 1) := by decide +kernel
theorem dX12_remember_62 : decode cX12_remember 62 = .ok (.invokestatic 333, 3) := by decide +kernel
theorem dX12_remember_65 : decode cX12_remember 65 = .ok (.return_, 1) := by decide +kernel
theorem dX12_notes_0 : decode cX12_notes 0 = .ok (.aload_n 0, 1) := by decide +kernel
theorem dX12_notes_1 : decode cX12_notes 1 = .ok (.getfield 63, 3) := by decide +kernel
theorem dX12_notes_4 : decode cX12_notes 4 = .ok (.bipush 75, 2) := by decide +kernel
theorem dX12_notes_6 : decode cX12_notes 6 = .ok (.iaload, 1) := by decide +kernel
theorem dX12_notes_7 : decode cX12_notes 7 = .ok (.bipush 60, 2) := by decide +kernel
theorem dX12_notes_9 : decode cX12_notes 9 = .ok (.if_icmp .ne 49, 3) := by decide +kernel
theorem dX12_notes_12 : decode cX12_notes 12 = .ok (.iconst 1, 1) := by decide +kernel
theorem dX12_notes_13 : decode cX12_notes 13 = .ok (.istore_n 3, 1) := by decide +kernel
theorem dX12_notes_14 : decode cX12_notes 14 = .ok (.iload_n 3, 1) := by decide +kernel
theorem dX12_notes_15 : decode cX12_notes 15 = .ok (.sipush 177, 3) := by decide +kernel
theorem dX12_notes_18 : decode cX12_notes 18 = .ok (.if_icmp .gt 29, 3) := by decide +kernel
theorem dX12_notes_21 : decode cX12_notes 21 = .ok (.aload_n 0, 1) := by decide +kernel
theorem dX12_notes_22 : decode cX12_notes 22 = .ok (.getfield 63, 3) := by decide +kernel
theorem dX12_notes_25 : decode cX12_notes 25 = .ok (.bipush 75, 2) := by decide +kernel
theorem dX12_notes_27 : decode cX12_notes 27 = .ok (.iload_n 3, 1) := by decide +kernel
theorem dX12_notes_28 : decode cX12_notes 28 = .ok (.iadd, 1) := by decide +kernel
theorem dX12_notes_29 : decode cX12_notes 29 = .ok (.aload_n 0, 1) := by decide +kernel
theorem dX12_notes_30 : decode cX12_notes 30 = .ok (.getfield 63, 3) := by decide +kernel
theorem dX12_notes_33 : decode cX12_notes 33 = .ok (.bipush 75, 2) := by decide +kernel
theorem dX12_notes_35 : decode cX12_notes 35 = .ok (.iload_n 3, 1) := by decide +kernel
theorem dX12_notes_36 : decode cX12_notes 36 = .ok (.iadd, 1) := by decide +kernel
theorem dX12_notes_37 : decode cX12_notes 37 = .ok (.iconst 3, 1) := by decide +kernel
theorem dX12_notes_38 : decode cX12_notes 38 = .ok (.iadd, 1) := by decide +kernel
theorem dX12_notes_39 : decode cX12_notes 39 = .ok (.iaload, 1) := by decide +kernel
theorem dX12_notes_40 : decode cX12_notes 40 = .ok (.iastore, 1) := by decide +kernel
theorem dX12_notes_41 : decode cX12_notes 41 = .ok (.iinc 3 1, 3) := by decide +kernel
theorem dX12_notes_44 : decode cX12_notes 44 = .ok (.goto (-30), 3) := by decide +kernel
theorem dX12_notes_47 : decode cX12_notes 47 = .ok (.aload_n 0, 1) := by decide +kernel
theorem dX12_notes_48 : decode cX12_notes 48 = .ok (.getfield 63, 3) := by decide +kernel
theorem dX12_notes_51 : decode cX12_notes 51 = .ok (.bipush 75, 2) := by decide +kernel
theorem dX12_notes_53 : decode cX12_notes 53 = .ok (.dup2, 1) := by decide +kernel
theorem dX12_notes_54 : decode cX12_notes 54 = .ok (.iaload, 1) := by decide +kernel
theorem dX12_notes_55 : decode cX12_notes 55 = .ok (.iconst 1, 1) := by decide +kernel
theorem dX12_notes_56 : decode cX12_notes 56 = .ok (.isub, 1) := by decide +kernel
theorem dX12_notes_57 : decode cX12_notes 57 = .ok (.iastore, 1) := by decide +kernel
theorem dX12_notes_58 : decode cX12_notes 58 = .ok (.bipush 76, 2) := by decide +kernel
theorem dX12_notes_60 : decode cX12_notes 60 = .ok (.iconst 3, 1) := by decide +kernel
theorem dX12_notes_61 : decode cX12_notes 61 = .ok (.aload_n 0, 1) := by decide +kernel
theorem dX12_notes_62 : decode cX12_notes 62 = .ok (.getfield 63, 3) := by decide +kernel
theorem dX12_notes_65 : decode cX12_notes 65 = .ok (.bipush 75, 2) := by decide +kernel
theorem dX12_notes_67 : decode cX12_notes 67 = .ok (.iaload, 1) := by decide +kernel
theorem dX12_notes_68 : decode cX12_notes 68 = .ok (.imul, 1) := by decide +kernel
theorem dX12_notes_69 : decode cX12_notes 69 = .ok (.iadd, 1) := by decide +kernel
theorem dX12_notes_70 : decode cX12_notes 70 = .ok (.istore_n 3, 1) := by decide +kernel
theorem dX12_notes_71 : decode cX12_notes 71 = .ok (.aload_n 0, 1) := by decide +kernel
theorem dX12_notes_72 : decode cX12_notes 72 = .ok (.getfield 63, 3) := by decide +kernel
theorem dX12_notes_75 : decode cX12_notes 75 = .ok (.iload_n 3, 1) := by decide +kernel
theorem dX12_notes_76 : decode cX12_notes 76 = .ok (.iload_n 1, 1) := by decide +kernel
theorem dX12_notes_77 : decode cX12_notes 77 = .ok (.iastore, 1) := by decide +kernel
theorem dX12_notes_78 : decode cX12_notes 78 = .ok (.aload_n 0, 1) := by decide +kernel
theorem dX12_notes_79 : decode cX12_notes 79 = .ok (.getfield 63, 3) := by decide +kernel
theorem dX12_notes_82 : decode cX12_notes 82 = .ok (.iload_n 3, 1) := by decide +kernel
theorem dX12_notes_83 : decode cX12_notes 83 = .ok (.iconst 1, 1) := by decide +kernel
theorem dX12_notes_84 : decode cX12_notes 84 = .ok (.iadd, 1) := by decide +kernel
theorem dX12_notes_85 : decode cX12_notes 85 = .ok (.iload_n 2, 1) := by decide +kernel
theorem dX12_notes_86 : decode cX12_notes 86 = .ok (.iastore, 1) := by decide +kernel
theorem dX12_notes_87 : decode cX12_notes 87 = .ok (.aload_n 0, 1) := by decide +kernel
theorem dX12_notes_88 : decode cX12_notes 88 = .ok (.getfield 63, 3) := by decide +kernel
theorem dX12_notes_91 : decode cX12_notes 91 = .ok (.iload_n 3, 1) := by decide +kernel
theorem dX12_notes_92 : decode cX12_notes 92 = .ok (.iconst 2, 1) := by decide +kernel
theorem dX12_notes_93 : decode cX12_notes 93 = .ok (.iadd, 1) := by decide +kernel
theorem dX12_notes_94 : decode cX12_notes 94 = .ok (.aload_n 0, 1) := by decide +kernel
theorem dX12_notes_95 : decode cX12_notes 95 = .ok (.getfield 63, 3) := by decide +kernel
theorem dX12_notes_98 : decode cX12_notes 98 = .ok (.bipush 41, 2) := by decide +kernel
theorem dX12_notes_100 : decode cX12_notes 100 = .ok (.iaload, 1) := by decide +kernel
theorem dX12_notes_101 : decode cX12_notes 101 = .ok (.iastore, 1) := by decide +kernel
theorem dX12_notes_102 : decode cX12_notes 102 = .ok (.aload_n 0, 1) := by decide +kernel
theorem dX12_notes_103 : decode cX12_notes 103 = .ok (.getfield 63, 3) := by decide +kernel
theorem dX12_notes_106 : decode cX12_notes 106 = .ok (.bipush 75, 2) := by decide +kernel
theorem dX12_notes_108 : decode cX12_notes 108 = .ok (.dup2, 1) := by decide +kernel
theorem dX12_notes_109 : decode cX12_notes 109 = .ok (.iaload, 1) := by decide +kernel
theorem dX12_notes_110 : decode cX12_notes 110 = .ok (.iconst 1, 1) := by decide +kernel
theorem dX12_notes_111 : decode cX12_notes 111 = .ok (.iadd, 1) := by decide +kernel
theorem dX12_notes_112 : decode cX12_notes 112 = .ok (.iastore, 1) := by decide +kernel
theorem dX12_notes_113 : decode cX12_notes 113 = .ok (.return_, 1) := by decide +kernel
theorem dX12_isTask_0 : decode cX12_isTask 0 = .ok (.iload_n 1, 1) := by decide +kernel
theorem dX12_isTask_1 : decode cX12_isTask 1 = .ok (.ifCond .lt 15, 3) := by decide +kernel
theorem dX12_isTask_4 : decode cX12_isTask 4 = .ok (.iload_n 1, 1) := by decide +kernel
theorem dX12_isTask_5 : decode cX12_isTask 5 = .ok (.aload_n 0, 1) := by decide +kernel
theorem dX12_isTask_6 : decode cX12_isTask 6 = .ok (.getfield 237, 3) := by decide +kernel
theorem dX12_isTask_9 : decode cX12_isTask 9 = .ok (.if_icmp .ge 7, 3) := by decide +kernel
theorem dX12_isTask_12 : decode cX12_isTask 12 = .ok (.iconst 1, 1) := by decide +kernel
theorem dX12_isTask_13 : decode cX12_isTask 13 = .ok (.goto 4, 3) := by decide +kernel
theorem dX12_isTask_16 : decode cX12_isTask 16 = .ok (.iconst 0, 1) := by decide +kernel
theorem dX12_isTask_17 : decode cX12_isTask 17 = .ok (.ireturn, 1) := by decide +kernel
theorem dX12_isCluster_0 : decode cX12_isCluster 0 = .ok (.iload_n 1, 1) := by decide +kernel
theorem dX12_isCluster_1 : decode cX12_isCluster 1 = .ok (.ifCond .lt 15, 3) := by decide +kernel
theorem dX12_isCluster_4 : decode cX12_isCluster 4 = .ok (.iload_n 1, 1) := by decide +kernel
theorem dX12_isCluster_5 : decode cX12_isCluster 5 = .ok (.aload_n 0, 1) := by decide +kernel
theorem dX12_isCluster_6 : decode cX12_isCluster 6 = .ok (.getfield 234, 3) := by decide +kernel
theorem dX12_isCluster_9 : decode cX12_isCluster 9 = .ok (.if_icmp .ge 7, 3) := by decide +kernel
theorem dX12_isCluster_12 : decode cX12_isCluster 12 = .ok (.iconst 1, 1) := by decide +kernel
theorem dX12_isCluster_13 : decode cX12_isCluster 13 = .ok (.goto 4, 3) := by decide +kernel
theorem dX12_isCluster_16 : decode cX12_isCluster 16 = .ok (.iconst 0, 1) := by decide +kernel
theorem dX12_isCluster_17 : decode cX12_isCluster 17 = .ok (.ireturn, 1) := by decide +kernel
theorem dX12_isCore_0 : decode cX12_isCore 0 = .ok (.aload_n 0, 1) := by decide +kernel
theorem dX12_isCore_1 : decode cX12_isCore 1 = .ok (.getfield 234, 3) := by decide +kernel
theorem dX12_isCore_4 : decode cX12_isCore 4 = .ok (.ifCond .le 23, 3) := by decide +kernel
theorem dX12_isCore_7 : decode cX12_isCore 7 = .ok (.iload_n 1, 1) := by decide +kernel
theorem dX12_isCore_8 : decode cX12_isCore 8 = .ok (.i2l, 1) := by decide +kernel
theorem dX12_isCore_9 : decode cX12_isCore 9 = .ok (.lconst 0, 1) := by decide +kernel
theorem dX12_isCore_10 : decode cX12_isCore 10 = .ok (.aload_n 0, 1) := by decide +kernel
theorem dX12_isCore_11 : decode cX12_isCore 11 = .ok (.getfield 240, 3) := by decide +kernel
theorem dX12_isCore_14 : decode cX12_isCore 14 = .ok (.iconst 1, 1) := by decide +kernel
theorem dX12_isCore_15 : decode cX12_isCore 15 = .ok (.isub, 1) := by decide +kernel
theorem dX12_isCore_16 : decode cX12_isCore 16 = .ok (.i2l, 1) := by decide +kernel
theorem dX12_isCore_17 : decode cX12_isCore 17 = .ok (.invokestatic 156, 3) := by decide +kernel
theorem dX12_isCore_20 : decode cX12_isCore 20 = .ok (.ifCond .eq 7, 3) := by decide +kernel
theorem dX12_isCore_23 : decode cX12_isCore 23 = .ok (.iconst 1, 1) := by decide +kernel
theorem dX12_isCore_24 : decode cX12_isCore 24 = .ok (.goto 4, 3) := by decide +kernel
theorem dX12_isCore_27 : decode cX12_isCore 27 = .ok (.iconst 0, 1) := by decide +kernel
theorem dX12_isCore_28 : decode cX12_isCore 28 = .ok (.ireturn, 1) := by decide +kernel
theorem dX12_stops_0 : decode cX12_stops 0 = .ok (.aload_n 0, 1) := by decide +kernel
theorem dX12_stops_1 : decode cX12_stops 1 = .ok (.getfield 234, 3) := by decide +kernel
theorem dX12_stops_4 : decode cX12_stops 4 = .ok (.ifCond .ne 5, 3) := by decide +kernel
theorem dX12_stops_7 : decode cX12_stops 7 = .ok (.iconst 0, 1) := by decide +kernel
theorem dX12_stops_8 : decode cX12_stops 8 = .ok (.ireturn, 1) := by decide +kernel
theorem dX12_stops_9 : decode cX12_stops 9 = .ok (.iload_n 2, 1) := by decide +kernel
theorem dX12_stops_10 : decode cX12_stops 10 = .ok (.tableswitch 207 0 5 #[38, 72, 110, 121, 152, 180], 38) := by decide +kernel
theorem dX12_stops_48 : decode cX12_stops 48 = .ok (.iload_n 3, 1) := by decide +kernel
theorem dX12_stops_49 : decode cX12_stops 49 = .ok (.i2l, 1) := by decide +kernel
theorem dX12_stops_50 : decode cX12_stops 50 = .ok (.lconst 1, 1) := by decide +kernel
theorem dX12_stops_51 : decode cX12_stops 51 = .ok (.ldc2_w 337, 3) := by decide +kernel
theorem dX12_stops_54 : decode cX12_stops 54 = .ok (.invokestatic 156, 3) := by decide +kernel
theorem dX12_stops_57 : decode cX12_stops 57 = .ok (.ifCond .ne 7, 3) := by decide +kernel
theorem dX12_stops_60 : decode cX12_stops 60 = .ok (.iconst 1, 1) := by decide +kernel
theorem dX12_stops_61 : decode cX12_stops 61 = .ok (.goto 20, 3) := by decide +kernel
theorem dX12_stops_64 : decode cX12_stops 64 = .ok (.aload_n 1, 1) := by decide +kernel
theorem dX12_stops_65 : decode cX12_stops 65 = .ok (.bipush 41, 2) := by decide +kernel
theorem dX12_stops_67 : decode cX12_stops 67 = .ok (.iaload, 1) := by decide +kernel
theorem dX12_stops_68 : decode cX12_stops 68 = .ok (.iload_n 3, 1) := by decide +kernel
theorem dX12_stops_69 : decode cX12_stops 69 = .ok (.iadd, 1) := by decide +kernel
theorem dX12_stops_70 : decode cX12_stops 70 = .ok (.sipush 9999, 3) := by decide +kernel
theorem dX12_stops_73 : decode cX12_stops 73 = .ok (.if_icmp .le 7, 3) := by decide +kernel
theorem dX12_stops_76 : decode cX12_stops 76 = .ok (.iconst 3, 1) := by decide +kernel
theorem dX12_stops_77 : decode cX12_stops 77 = .ok (.goto 4, 3) := by decide +kernel
theorem dX12_stops_80 : decode cX12_stops 80 = .ok (.iconst (-1), 1) := by decide +kernel
theorem dX12_stops_81 : decode cX12_stops 81 = .ok (.ireturn, 1) := by decide +kernel
theorem dX12_stops_82 : decode cX12_stops 82 = .ok (.aload_n 0, 1) := by decide +kernel
theorem dX12_stops_83 : decode cX12_stops 83 = .ok (.iload_n 3, 1) := by decide +kernel
theorem dX12_stops_84 : decode cX12_stops 84 = .ok (.invokevirtual 339, 3) := by decide +kernel
theorem dX12_stops_87 : decode cX12_stops 87 = .ok (.ifCond .eq 12, 3) := by decide +kernel
theorem dX12_stops_90 : decode cX12_stops 90 = .ok (.aload_n 0, 1) := by decide +kernel
theorem dX12_stops_91 : decode cX12_stops 91 = .ok (.iload 4, 2) := by decide +kernel
theorem dX12_stops_93 : decode cX12_stops 93 = .ok (.invokevirtual 343, 3) := by decide +kernel
theorem dX12_stops_96 : decode cX12_stops 96 = .ok (.ifCond .ne 7, 3) := by decide +kernel
theorem dX12_stops_99 : decode cX12_stops 99 = .ok (.iconst 0, 1) := by decide +kernel
theorem dX12_stops_100 : decode cX12_stops 100 = .ok (.goto 19, 3) := by decide +kernel
theorem dX12_stops_103 : decode cX12_stops 103 = .ok (.aload_n 1, 1) := by decide +kernel
theorem dX12_stops_104 : decode cX12_stops 104 = .ok (.bipush 21, 2) := by decide +kernel
theorem dX12_stops_106 : decode cX12_stops 106 = .ok (.iload_n 3, 1) := by decide +kernel
theorem dX12_stops_107 : decode cX12_stops 107 = .ok (.iadd, 1) := by decide +kernel
theorem dX12_stops_108 : decode cX12_stops 108 = .ok (.iaload, 1) := by decide +kernel
theorem dX12_stops_109 : decode cX12_stops 109 = .ok (.iload 4, 2) := by decide +kernel
theorem dX12_stops_111 : decode cX12_stops 111 = .ok (.if_icmp .ne 7, 3) := by decide +kernel
theorem dX12_stops_114 : decode cX12_stops 114 = .ok (.iconst 2, 1) := by decide +kernel
theorem dX12_stops_115 : decode cX12_stops 115 = .ok (.goto 4, 3) := by decide +kernel
theorem dX12_stops_118 : decode cX12_stops 118 = .ok (.iconst (-1), 1) := by decide +kernel
theorem dX12_stops_119 : decode cX12_stops 119 = .ok (.ireturn, 1) := by decide +kernel
theorem dX12_stops_120 : decode cX12_stops 120 = .ok (.aload_n 0, 1) := by decide +kernel
theorem dX12_stops_121 : decode cX12_stops 121 = .ok (.aload_n 1, 1) := by decide +kernel
theorem dX12_stops_122 : decode cX12_stops 122 = .ok (.iload_n 3, 1) := by decide +kernel
theorem dX12_stops_123 : decode cX12_stops 123 = .ok (.iload 4, 2) := by decide +kernel
theorem dX12_stops_125 : decode cX12_stops 125 = .ok (.iload 5, 2) := by decide +kernel
theorem dX12_stops_127 : decode cX12_stops 127 = .ok (.invokevirtual 346, 3) := by decide +kernel
theorem dX12_stops_130 : decode cX12_stops 130 = .ok (.ireturn, 1) := by decide +kernel
theorem dX12_stops_131 : decode cX12_stops 131 = .ok (.aload_n 0, 1) := by decide +kernel
theorem dX12_stops_132 : decode cX12_stops 132 = .ok (.iload_n 3, 1) := by decide +kernel
theorem dX12_stops_133 : decode cX12_stops 133 = .ok (.invokevirtual 350, 3) := by decide +kernel
theorem dX12_stops_136 : decode cX12_stops 136 = .ok (.ifCond .ne 7, 3) := by decide +kernel
theorem dX12_stops_139 : decode cX12_stops 139 = .ok (.iconst 0, 1) := by decide +kernel
theorem dX12_stops_140 : decode cX12_stops 140 = .ok (.goto 21, 3) := by decide +kernel
theorem dX12_stops_143 : decode cX12_stops 143 = .ok (.aload_n 1, 1) := by decide +kernel
theorem dX12_stops_144 : decode cX12_stops 144 = .ok (.aload_n 0, 1) := by decide +kernel
theorem dX12_stops_145 : decode cX12_stops 145 = .ok (.getfield 353, 3) := by decide +kernel
theorem dX12_stops_148 : decode cX12_stops 148 = .ok (.iload_n 3, 1) := by decide +kernel
theorem dX12_stops_149 : decode cX12_stops 149 = .ok (.invokestatic 356, 3) := by decide +kernel
theorem dX12_stops_152 : decode cX12_stops 152 = .ok (.iconst (-1), 1) := by decide +kernel
theorem dX12_stops_153 : decode cX12_stops 153 = .ok (.if_icmp .ne 7, 3) := by decide +kernel
theorem dX12_stops_156 : decode cX12_stops 156 = .ok (.iconst 2, 1) := by decide +kernel
theorem dX12_stops_157 : decode cX12_stops 157 = .ok (.goto 4, 3) := by decide +kernel
theorem dX12_stops_160 : decode cX12_stops 160 = .ok (.iconst (-1), 1) := by decide +kernel
theorem dX12_stops_161 : decode cX12_stops 161 = .ok (.ireturn, 1) := by decide +kernel
theorem dX12_stops_162 : decode cX12_stops 162 = .ok (.aload_n 0, 1) := by decide +kernel
theorem dX12_stops_163 : decode cX12_stops 163 = .ok (.iload_n 3, 1) := by decide +kernel
theorem dX12_stops_164 : decode cX12_stops 164 = .ok (.invokevirtual 339, 3) := by decide +kernel
theorem dX12_stops_167 : decode cX12_stops 167 = .ok (.ifCond .ne 7, 3) := by decide +kernel
theorem dX12_stops_170 : decode cX12_stops 170 = .ok (.iconst 0, 1) := by decide +kernel
theorem dX12_stops_171 : decode cX12_stops 171 = .ok (.goto 18, 3) := by decide +kernel
theorem dX12_stops_174 : decode cX12_stops 174 = .ok (.aload_n 1, 1) := by decide +kernel
theorem dX12_stops_175 : decode cX12_stops 175 = .ok (.bipush 37, 2) := by decide +kernel
theorem dX12_stops_177 : decode cX12_stops 177 = .ok (.iload_n 3, 1) := by decide +kernel
theorem dX12_stops_178 : decode cX12_stops 178 = .ok (.iadd, 1) := by decide +kernel
theorem dX12_stops_179 : decode cX12_stops 179 = .ok (.iaload, 1) := by decide +kernel
theorem dX12_stops_180 : decode cX12_stops 180 = .ok (.iconst 1, 1) := by decide +kernel
theorem dX12_stops_181 : decode cX12_stops 181 = .ok (.if_icmp .ne 7, 3) := by decide +kernel
theorem dX12_stops_184 : decode cX12_stops 184 = .ok (.iconst 2, 1) := by decide +kernel
theorem dX12_stops_185 : decode cX12_stops 185 = .ok (.goto 4, 3) := by decide +kernel
theorem dX12_stops_188 : decode cX12_stops 188 = .ok (.iconst (-1), 1) := by decide +kernel
theorem dX12_stops_189 : decode cX12_stops 189 = .ok (.ireturn, 1) := by decide +kernel
theorem dX12_stops_190 : decode cX12_stops 190 = .ok (.aload_n 0, 1) := by decide +kernel
theorem dX12_stops_191 : decode cX12_stops 191 = .ok (.iload_n 3, 1) := by decide +kernel
theorem dX12_stops_192 : decode cX12_stops 192 = .ok (.invokevirtual 339, 3) := by decide +kernel
theorem dX12_stops_195 : decode cX12_stops 195 = .ok (.ifCond .ne 7, 3) := by decide +kernel
theorem dX12_stops_198 : decode cX12_stops 198 = .ok (.iconst 0, 1) := by decide +kernel
theorem dX12_stops_199 : decode cX12_stops 199 = .ok (.goto 17, 3) := by decide +kernel
theorem dX12_stops_202 : decode cX12_stops 202 = .ok (.aload_n 1, 1) := by decide +kernel
theorem dX12_stops_203 : decode cX12_stops 203 = .ok (.bipush 37, 2) := by decide +kernel
theorem dX12_stops_205 : decode cX12_stops 205 = .ok (.iload_n 3, 1) := by decide +kernel
theorem dX12_stops_206 : decode cX12_stops 206 = .ok (.iadd, 1) := by decide +kernel
theorem dX12_stops_207 : decode cX12_stops 207 = .ok (.iaload, 1) := by decide +kernel
theorem dX12_stops_208 : decode cX12_stops 208 = .ok (.ifCond .ne 7, 3) := by decide +kernel
theorem dX12_stops_211 : decode cX12_stops 211 = .ok (.iconst 2, 1) := by decide +kernel
theorem dX12_stops_212 : decode cX12_stops 212 = .ok (.goto 4, 3) := by decide +kernel
theorem dX12_stops_215 : decode cX12_stops 215 = .ok (.iconst (-1), 1) := by decide +kernel
theorem dX12_stops_216 : decode cX12_stops 216 = .ok (.ireturn, 1) := by decide +kernel
theorem dX12_stops_217 : decode cX12_stops 217 = .ok (.aload_n 0, 1) := by decide +kernel
theorem dX12_stops_218 : decode cX12_stops 218 = .ok (.aload_n 1, 1) := by decide +kernel
theorem dX12_stops_219 : decode cX12_stops 219 = .ok (.invokevirtual 360, 3) := by decide +kernel
theorem dX12_stops_222 : decode cX12_stops 222 = .ok (.ireturn, 1) := by decide +kernel
theorem dX12_stopsAsking_0 : decode cX12_stopsAsking 0 = .ok (.aload_n 0, 1) := by decide +kernel
theorem dX12_stopsAsking_1 : decode cX12_stopsAsking 1 = .ok (.iload_n 2, 1) := by decide +kernel
theorem dX12_stopsAsking_2 : decode cX12_stopsAsking 2 = .ok (.invokevirtual 350, 3) := by decide +kernel
theorem dX12_stopsAsking_5 : decode cX12_stopsAsking 5 = .ok (.ifCond .ne 5, 3) := by decide +kernel
theorem dX12_stopsAsking_8 : decode cX12_stopsAsking 8 = .ok (.iconst 0, 1) := by decide +kernel
theorem dX12_stopsAsking_9 : decode cX12_stopsAsking 9 = .ok (.ireturn, 1) := by decide +kernel
theorem dX12_stopsAsking_10 : decode cX12_stopsAsking 10 = .ok (.iload_n 3, 1) := by decide +kernel
theorem dX12_stopsAsking_11 : decode cX12_stopsAsking 11 = .ok (.i2l, 1) := by decide +kernel
theorem dX12_stopsAsking_12 : decode cX12_stopsAsking 12 = .ok (.lconst 0, 1) := by decide +kernel
theorem dX12_stopsAsking_13 : decode cX12_stopsAsking 13 = .ok (.aload_n 0, 1) := by decide +kernel
theorem dX12_stopsAsking_14 : decode cX12_stopsAsking 14 = .ok (.iload_n 2, 1) := by decide +kernel
theorem dX12_stopsAsking_15 : decode cX12_stopsAsking 15 = .ok (.invokevirtual 246, 3) := by decide +kernel
theorem dX12_stopsAsking_18 : decode cX12_stopsAsking 18 = .ok (.i2l, 1) := by decide +kernel
theorem dX12_stopsAsking_19 : decode cX12_stopsAsking 19 = .ok (.invokestatic 156, 3) := by decide +kernel
theorem dX12_stopsAsking_22 : decode cX12_stopsAsking 22 = .ok (.ifCond .eq 20, 3) := by decide +kernel
theorem dX12_stopsAsking_25 : decode cX12_stopsAsking 25 = .ok (.iload 4, 2) := by decide +kernel
theorem dX12_stopsAsking_27 : decode cX12_stopsAsking 27 = .ok (.i2l, 1) := by decide +kernel
theorem dX12_stopsAsking_28 : decode cX12_stopsAsking 28 = .ok (.iload_n 3, 1) := by decide +kernel
theorem dX12_stopsAsking_29 : decode cX12_stopsAsking 29 = .ok (.i2l, 1) := by decide +kernel
theorem dX12_stopsAsking_30 : decode cX12_stopsAsking 30 = .ok (.aload_n 0, 1) := by decide +kernel
theorem dX12_stopsAsking_31 : decode cX12_stopsAsking 31 = .ok (.iload_n 2, 1) := by decide +kernel
theorem dX12_stopsAsking_32 : decode cX12_stopsAsking 32 = .ok (.invokevirtual 246, 3) := by decide +kernel
theorem dX12_stopsAsking_35 : decode cX12_stopsAsking 35 = .ok (.i2l, 1) := by decide +kernel
theorem dX12_stopsAsking_36 : decode cX12_stopsAsking 36 = .ok (.invokestatic 156, 3) := by decide +kernel
theorem dX12_stopsAsking_39 : decode cX12_stopsAsking 39 = .ok (.ifCond .ne 5, 3) := by decide +kernel
theorem dX12_stopsAsking_42 : decode cX12_stopsAsking 42 = .ok (.iconst 1, 1) := by decide +kernel
theorem dX12_stopsAsking_43 : decode cX12_stopsAsking 43 = .ok (.ireturn, 1) := by decide +kernel
theorem dX12_stopsAsking_44 : decode cX12_stopsAsking 44 = .ok (.aload_n 1, 1) := by decide +kernel
theorem dX12_stopsAsking_45 : decode cX12_stopsAsking 45 = .ok (.aload_n 0, 1) := by decide +kernel
theorem dX12_stopsAsking_46 : decode cX12_stopsAsking 46 = .ok (.getfield 353, 3) := by decide +kernel
theorem dX12_stopsAsking_49 : decode cX12_stopsAsking 49 = .ok (.iload_n 2, 1) := by decide +kernel
theorem dX12_stopsAsking_50 : decode cX12_stopsAsking 50 = .ok (.invokestatic 356, 3) := by decide +kernel
theorem dX12_stopsAsking_53 : decode cX12_stopsAsking 53 = .ok (.istore 5, 2) := by decide +kernel
theorem dX12_stopsAsking_55 : decode cX12_stopsAsking 55 = .ok (.iload 5, 2) := by decide +kernel
theorem dX12_stopsAsking_57 : decode cX12_stopsAsking 57 = .ok (.iconst (-1), 1) := by decide +kernel
theorem dX12_stopsAsking_58 : decode cX12_stopsAsking 58 = .ok (.if_icmp .eq 36, 3) := by decide +kernel
theorem dX12_stopsAsking_61 : decode cX12_stopsAsking 61 = .ok (.aload_n 1, 1) := by decide +kernel
theorem dX12_stopsAsking_62 : decode cX12_stopsAsking 62 = .ok (.bipush 48, 2) := by decide +kernel
theorem dX12_stopsAsking_64 : decode cX12_stopsAsking 64 = .ok (.iconst 5, 1) := by decide +kernel
theorem dX12_stopsAsking_65 : decode cX12_stopsAsking 65 = .ok (.iload 5, 2) := by decide +kernel
theorem dX12_stopsAsking_67 : decode cX12_stopsAsking 67 = .ok (.imul, 1) := by decide +kernel
theorem dX12_stopsAsking_68 : decode cX12_stopsAsking 68 = .ok (.iadd, 1) := by decide +kernel
theorem dX12_stopsAsking_69 : decode cX12_stopsAsking 69 = .ok (.iaload, 1) := by decide +kernel
theorem dX12_stopsAsking_70 : decode cX12_stopsAsking 70 = .ok (.iload_n 3, 1) := by decide +kernel
theorem dX12_stopsAsking_71 : decode cX12_stopsAsking 71 = .ok (.if_icmp .ne 21, 3) := by decide +kernel
theorem dX12_stopsAsking_74 : decode cX12_stopsAsking 74 = .ok (.aload_n 1, 1) := by decide +kernel
theorem dX12_stopsAsking_75 : decode cX12_stopsAsking 75 = .ok (.bipush 49, 2) := by decide +kernel
theorem dX12_stopsAsking_77 : decode cX12_stopsAsking 77 = .ok (.iconst 5, 1) := by decide +kernel
theorem dX12_stopsAsking_78 : decode cX12_stopsAsking 78 = .ok (.iload 5, 2) := by decide +kernel
theorem dX12_stopsAsking_80 : decode cX12_stopsAsking 80 = .ok (.imul, 1) := by decide +kernel
theorem dX12_stopsAsking_81 : decode cX12_stopsAsking 81 = .ok (.iadd, 1) := by decide +kernel
theorem dX12_stopsAsking_82 : decode cX12_stopsAsking 82 = .ok (.iaload, 1) := by decide +kernel
theorem dX12_stopsAsking_83 : decode cX12_stopsAsking 83 = .ok (.iload 4, 2) := by decide +kernel
theorem dX12_stopsAsking_85 : decode cX12_stopsAsking 85 = .ok (.if_icmp .ne 7, 3) := by decide +kernel
theorem dX12_stopsAsking_88 : decode cX12_stopsAsking 88 = .ok (.iconst 2, 1) := by decide +kernel
theorem dX12_stopsAsking_89 : decode cX12_stopsAsking 89 = .ok (.goto 4, 3) := by decide +kernel
theorem dX12_stopsAsking_92 : decode cX12_stopsAsking 92 = .ok (.iconst (-1), 1) := by decide +kernel
theorem dX12_stopsAsking_93 : decode cX12_stopsAsking 93 = .ok (.ireturn, 1) := by decide +kernel
theorem dX12_stopsAsking_94 : decode cX12_stopsAsking 94 = .ok (.aload_n 1, 1) := by decide +kernel
theorem dX12_stopsAsking_95 : decode cX12_stopsAsking 95 = .ok (.bipush 44, 2) := by decide +kernel
theorem dX12_stopsAsking_97 : decode cX12_stopsAsking 97 = .ok (.iaload, 1) := by decide +kernel
theorem dX12_stopsAsking_98 : decode cX12_stopsAsking 98 = .ok (.bipush 6, 2) := by decide +kernel
theorem dX12_stopsAsking_100 : decode cX12_stopsAsking 100 = .ok (.if_icmp .ne 7, 3) := by decide +kernel
theorem dX12_stopsAsking_103 : decode cX12_stopsAsking 103 = .ok (.iconst 3, 1) := by decide +kernel
theorem dX12_stopsAsking_104 : decode cX12_stopsAsking 104 = .ok (.goto 4, 3) := by decide +kernel
theorem dX12_stopsAsking_107 : decode cX12_stopsAsking 107 = .ok (.iconst (-1), 1) := by decide +kernel
