-- decode rows, begun from the printed rows of the claim
theorem dX0_init_0 : decode cX0_init 0 = .ok (.aload_n 0, 1) := by decide +kernel
theorem dX0_init_1 : decode cX0_init 1 = .ok (.invokespecial 3, 3) := by decide +kernel
theorem dX0_init_4 : decode cX0_init 4 = .ok (.aload_n 0, 1) := by decide +kernel
theorem dX0_init_5 : decode cX0_init 5 = .ok (.new 9, 3) := by decide +kernel
theorem dX0_init_8 : decode cX0_init 8 = .ok (.dup, 1) := by decide +kernel
theorem dX0_init_9 : decode cX0_init 9 = .ok (.invokespecial 11, 3) := by decide +kernel
theorem dX0_init_12 : decode cX0_init 12 = .ok (.putfield 12, 3) := by decide +kernel
theorem dX0_init_15 : decode cX0_init 15 = .ok (.aload_n 0, 1) := by decide +kernel
theorem dX0_init_16 : decode cX0_init 16 = .ok (.new 18, 3) := by decide +kernel
theorem dX0_init_19 : decode cX0_init 19 = .ok (.dup, 1) := by decide +kernel
theorem dX0_init_20 : decode cX0_init 20 = .ok (.invokespecial 20, 3) := by decide +kernel
theorem dX0_init_23 : decode cX0_init 23 = .ok (.putfield 21, 3) := by decide +kernel
theorem dX0_init_26 : decode cX0_init 26 = .ok (.return_, 1) := by decide +kernel
theorem dX0_refusalOf_0 : decode cX0_refusalOf 0 = .ok (.aload_n 3, 1) := by decide +kernel
theorem dX0_refusalOf_1 : decode cX0_refusalOf 1 = .ok (.getfield 25, 3) := by decide +kernel
theorem dX0_refusalOf_4 : decode cX0_refusalOf 4 = .ok (.iconst 0, 1) := by decide +kernel
theorem dX0_refusalOf_5 : decode cX0_refusalOf 5 = .ok (.iaload, 1) := by decide +kernel
theorem dX0_refusalOf_6 : decode cX0_refusalOf 6 = .ok (.istore 4, 2) := by decide +kernel
theorem dX0_refusalOf_8 : decode cX0_refusalOf 8 = .ok (.aload_n 3, 1) := by decide +kernel
theorem dX0_refusalOf_9 : decode cX0_refusalOf 9 = .ok (.getfield 31, 3) := by decide +kernel
theorem dX0_refusalOf_12 : decode cX0_refusalOf 12 = .ok (.tableswitch 100 0 5 #[40, 49, 64, 72, 80, 90], 40) := by decide +kernel
theorem dX0_refusalOf_52 : decode cX0_refusalOf 52 = .ok (.aload_n 0, 1) := by decide +kernel
theorem dX0_refusalOf_53 : decode cX0_refusalOf 53 = .ok (.aload_n 1, 1) := by decide +kernel
theorem dX0_refusalOf_54 : decode cX0_refusalOf 54 = .ok (.aload_n 2, 1) := by decide +kernel
theorem dX0_refusalOf_55 : decode cX0_refusalOf 55 = .ok (.iload 4, 2) := by decide +kernel
theorem dX0_refusalOf_57 : decode cX0_refusalOf 57 = .ok (.invokevirtual 35, 3) := by decide +kernel
theorem dX0_refusalOf_60 : decode cX0_refusalOf 60 = .ok (.ireturn, 1) := by decide +kernel
theorem dX0_refusalOf_61 : decode cX0_refusalOf 61 = .ok (.aload_n 0, 1) := by decide +kernel
theorem dX0_refusalOf_62 : decode cX0_refusalOf 62 = .ok (.aload_n 1, 1) := by decide +kernel
theorem dX0_refusalOf_63 : decode cX0_refusalOf 63 = .ok (.aload_n 2, 1) := by decide +kernel
theorem dX0_refusalOf_64 : decode cX0_refusalOf 64 = .ok (.iload 4, 2) := by decide +kernel
theorem dX0_refusalOf_66 : decode cX0_refusalOf 66 = .ok (.aload_n 3, 1) := by decide +kernel
theorem dX0_refusalOf_67 : decode cX0_refusalOf 67 = .ok (.getfield 25, 3) := by decide +kernel
theorem dX0_refusalOf_70 : decode cX0_refusalOf 70 = .ok (.iconst 1, 1) := by decide +kernel
theorem dX0_refusalOf_71 : decode cX0_refusalOf 71 = .ok (.iaload, 1) := by decide +kernel
theorem dX0_refusalOf_72 : decode cX0_refusalOf 72 = .ok (.invokevirtual 39, 3) := by decide +kernel
theorem dX0_refusalOf_75 : decode cX0_refusalOf 75 = .ok (.ireturn, 1) := by decide +kernel
theorem dX0_refusalOf_76 : decode cX0_refusalOf 76 = .ok (.aload_n 0, 1) := by decide +kernel
theorem dX0_refusalOf_77 : decode cX0_refusalOf 77 = .ok (.aload_n 1, 1) := by decide +kernel
theorem dX0_refusalOf_78 : decode cX0_refusalOf 78 = .ok (.aload_n 2, 1) := by decide +kernel
theorem dX0_refusalOf_79 : decode cX0_refusalOf 79 = .ok (.aload_n 3, 1) := by decide +kernel
theorem dX0_refusalOf_80 : decode cX0_refusalOf 80 = .ok (.invokevirtual 43, 3) := by decide +kernel
theorem dX0_refusalOf_83 : decode cX0_refusalOf 83 = .ok (.ireturn, 1) := by decide +kernel
theorem dX0_refusalOf_84 : decode cX0_refusalOf 84 = .ok (.aload_n 0, 1) := by decide +kernel
theorem dX0_refusalOf_85 : decode cX0_refusalOf 85 = .ok (.aload_n 1, 1) := by decide +kernel
theorem dX0_refusalOf_86 : decode cX0_refusalOf 86 = .ok (.aload_n 2, 1) := by decide +kernel
theorem dX0_refusalOf_87 : decode cX0_refusalOf 87 = .ok (.aload_n 3, 1) := by decide +kernel
theorem dX0_refusalOf_88 : decode cX0_refusalOf 88 = .ok (.invokevirtual 47, 3) := by decide +kernel
theorem dX0_refusalOf_91 : decode cX0_refusalOf 91 = .ok (.ireturn, 1) := by decide +kernel
theorem dX0_refusalOf_92 : decode cX0_refusalOf 92 = .ok (.aload_n 0, 1) := by decide +kernel
theorem dX0_refusalOf_93 : decode cX0_refusalOf 93 = .ok (.aload_n 1, 1) := by decide +kernel
theorem dX0_refusalOf_94 : decode cX0_refusalOf 94 = .ok (.aload_n 2, 1) := by decide +kernel
theorem dX0_refusalOf_95 : decode cX0_refusalOf 95 = .ok (.iload 4, 2) := by decide +kernel
theorem dX0_refusalOf_97 : decode cX0_refusalOf 97 = .ok (.iconst 1, 1) := by decide +kernel
theorem dX0_refusalOf_98 : decode cX0_refusalOf 98 = .ok (.invokevirtual 50, 3) := by decide +kernel
theorem dX0_refusalOf_101 : decode cX0_refusalOf 101 = .ok (.ireturn, 1) := by decide +kernel
theorem dX0_refusalOf_102 : decode cX0_refusalOf 102 = .ok (.aload_n 0, 1) := by decide +kernel
theorem dX0_refusalOf_103 : decode cX0_refusalOf 103 = .ok (.aload_n 1, 1) := by decide +kernel
theorem dX0_refusalOf_104 : decode cX0_refusalOf 104 = .ok (.aload_n 2, 1) := by decide +kernel
theorem dX0_refusalOf_105 : decode cX0_refusalOf 105 = .ok (.iload 4, 2) := by decide +kernel
theorem dX0_refusalOf_107 : decode cX0_refusalOf 107 = .ok (.iconst 0, 1) := by decide +kernel
theorem dX0_refusalOf_108 : decode cX0_refusalOf 108 = .ok (.invokevirtual 50, 3) := by decide +kernel
theorem dX0_refusalOf_111 : decode cX0_refusalOf 111 = .ok (.ireturn, 1) := by decide +kernel
theorem dX0_refusalOf_112 : decode cX0_refusalOf 112 = .ok (.aload_n 0, 1) := by decide +kernel
theorem dX0_refusalOf_113 : decode cX0_refusalOf 113 = .ok (.aload_n 1, 1) := by decide +kernel
theorem dX0_refusalOf_114 : decode cX0_refusalOf 114 = .ok (.aload_n 2, 1) := by decide +kernel
theorem dX0_refusalOf_115 : decode cX0_refusalOf 115 = .ok (.invokevirtual 54, 3) := by decide +kernel
theorem dX0_refusalOf_118 : decode cX0_refusalOf 118 = .ok (.ireturn, 1) := by decide +kernel
theorem dX0_carryOut_0 : decode cX0_carryOut 0 = .ok (.aload_n 3, 1) := by decide +kernel
theorem dX0_carryOut_1 : decode cX0_carryOut 1 = .ok (.getfield 25, 3) := by decide +kernel
theorem dX0_carryOut_4 : decode cX0_carryOut 4 = .ok (.iconst 0, 1) := by decide +kernel
theorem dX0_carryOut_5 : decode cX0_carryOut 5 = .ok (.iaload, 1) := by decide +kernel
theorem dX0_carryOut_6 : decode cX0_carryOut 6 = .ok (.istore 4, 2) := by decide +kernel
theorem dX0_carryOut_8 : decode cX0_carryOut 8 = .ok (.aload_n 3, 1) := by decide +kernel
theorem dX0_carryOut_9 : decode cX0_carryOut 9 = .ok (.getfield 31, 3) := by decide +kernel
theorem dX0_carryOut_12 : decode cX0_carryOut 12 = .ok (.tableswitch 127 0 5 #[40, 52, 67, 90, 109, 118], 40) := by decide +kernel
theorem dX0_carryOut_52 : decode cX0_carryOut 52 = .ok (.aload_n 0, 1) := by decide +kernel
theorem dX0_carryOut_53 : decode cX0_carryOut 53 = .ok (.getfield 12, 3) := by decide +kernel
theorem dX0_carryOut_56 : decode cX0_carryOut 56 = .ok (.aload_n 1, 1) := by decide +kernel
theorem dX0_carryOut_57 : decode cX0_carryOut 57 = .ok (.aload_n 2, 1) := by decide +kernel
theorem dX0_carryOut_58 : decode cX0_carryOut 58 = .ok (.iload 4, 2) := by decide +kernel
theorem dX0_carryOut_60 : decode cX0_carryOut 60 = .ok (.invokevirtual 58, 3) := by decide +kernel
theorem dX0_carryOut_63 : decode cX0_carryOut 63 = .ok (.ireturn, 1) := by decide +kernel
theorem dX0_carryOut_64 : decode cX0_carryOut 64 = .ok (.aload_n 0, 1) := by decide +kernel
theorem dX0_carryOut_65 : decode cX0_carryOut 65 = .ok (.aload_n 1, 1) := by decide +kernel
theorem dX0_carryOut_66 : decode cX0_carryOut 66 = .ok (.aload_n 2, 1) := by decide +kernel
theorem dX0_carryOut_67 : decode cX0_carryOut 67 = .ok (.iload 4, 2) := by decide +kernel
theorem dX0_carryOut_69 : decode cX0_carryOut 69 = .ok (.aload_n 3, 1) := by decide +kernel
theorem dX0_carryOut_70 : decode cX0_carryOut 70 = .ok (.getfield 25, 3) := by decide +kernel
theorem dX0_carryOut_73 : decode cX0_carryOut 73 = .ok (.iconst 1, 1) := by decide +kernel
theorem dX0_carryOut_74 : decode cX0_carryOut 74 = .ok (.iaload, 1) := by decide +kernel
theorem dX0_carryOut_75 : decode cX0_carryOut 75 = .ok (.invokevirtual 61, 3) := by decide +kernel
theorem dX0_carryOut_78 : decode cX0_carryOut 78 = .ok (.ireturn, 1) := by decide +kernel
theorem dX0_carryOut_79 : decode cX0_carryOut 79 = .ok (.aload_n 2, 1) := by decide +kernel
theorem dX0_carryOut_80 : decode cX0_carryOut 80 = .ok (.aload_n 3, 1) := by decide +kernel
theorem dX0_carryOut_81 : decode cX0_carryOut 81 = .ok (.getfield 64, 3) := by decide +kernel
theorem dX0_carryOut_84 : decode cX0_carryOut 84 = .ok (.iload 4, 2) := by decide +kernel
theorem dX0_carryOut_86 : decode cX0_carryOut 86 = .ok (.aload_n 3, 1) := by decide +kernel
theorem dX0_carryOut_87 : decode cX0_carryOut 87 = .ok (.getfield 25, 3) := by decide +kernel
theorem dX0_carryOut_90 : decode cX0_carryOut 90 = .ok (.iconst 1, 1) := by decide +kernel
theorem dX0_carryOut_91 : decode cX0_carryOut 91 = .ok (.iaload, 1) := by decide +kernel
theorem dX0_carryOut_92 : decode cX0_carryOut 92 = .ok (.aload_n 3, 1) := by decide +kernel
theorem dX0_carryOut_93 : decode cX0_carryOut 93 = .ok (.getfield 25, 3) := by decide +kernel
theorem dX0_carryOut_96 : decode cX0_carryOut 96 = .ok (.iconst 2, 1) := by decide +kernel
theorem dX0_carryOut_97 : decode cX0_carryOut 97 = .ok (.iaload, 1) := by decide +kernel
theorem dX0_carryOut_98 : decode cX0_carryOut 98 = .ok (.invokevirtual 68, 3) := by decide +kernel
theorem dX0_carryOut_101 : decode cX0_carryOut 101 = .ok (.ireturn, 1) := by decide +kernel
theorem dX0_carryOut_102 : decode cX0_carryOut 102 = .ok (.aload_n 2, 1) := by decide +kernel
theorem dX0_carryOut_103 : decode cX0_carryOut 103 = .ok (.aload_n 2, 1) := by decide +kernel
theorem dX0_carryOut_104 : decode cX0_carryOut 104 = .ok (.aload_n 3, 1) := by decide +kernel
theorem dX0_carryOut_105 : decode cX0_carryOut 105 = .ok (.getfield 64, 3) := by decide +kernel
theorem dX0_carryOut_108 : decode cX0_carryOut 108 = .ok (.iload 4, 2) := by decide +kernel
theorem dX0_carryOut_110 : decode cX0_carryOut 110 = .ok (.invokevirtual 74, 3) := by decide +kernel
theorem dX0_carryOut_113 : decode cX0_carryOut 113 = .ok (.invokevirtual 78, 3) := by decide +kernel
theorem dX0_carryOut_116 : decode cX0_carryOut 116 = .ok (.aload_n 2, 1) := by decide +kernel
theorem dX0_carryOut_117 : decode cX0_carryOut 117 = .ok (.getfield 82, 3) := by decide +kernel
theorem dX0_carryOut_120 : decode cX0_carryOut 120 = .ok (.ireturn, 1) := by decide +kernel
theorem dX0_carryOut_121 : decode cX0_carryOut 121 = .ok (.aload_n 0, 1) := by decide +kernel
theorem dX0_carryOut_122 : decode cX0_carryOut 122 = .ok (.aload_n 1, 1) := by decide +kernel
theorem dX0_carryOut_123 : decode cX0_carryOut 123 = .ok (.aload_n 2, 1) := by decide +kernel
theorem dX0_carryOut_124 : decode cX0_carryOut 124 = .ok (.iload 4, 2) := by decide +kernel
theorem dX0_carryOut_126 : decode cX0_carryOut 126 = .ok (.invokevirtual 85, 3) := by decide +kernel
theorem dX0_carryOut_129 : decode cX0_carryOut 129 = .ok (.ireturn, 1) := by decide +kernel
theorem dX0_carryOut_130 : decode cX0_carryOut 130 = .ok (.aload_n 0, 1) := by decide +kernel
theorem dX0_carryOut_131 : decode cX0_carryOut 131 = .ok (.aload_n 1, 1) := by decide +kernel
theorem dX0_carryOut_132 : decode cX0_carryOut 132 = .ok (.aload_n 2, 1) := by decide +kernel
theorem dX0_carryOut_133 : decode cX0_carryOut 133 = .ok (.iload 4, 2) := by decide +kernel
theorem dX0_carryOut_135 : decode cX0_carryOut 135 = .ok (.invokevirtual 88, 3) := by decide +kernel
theorem dX0_carryOut_138 : decode cX0_carryOut 138 = .ok (.ireturn, 1) := by decide +kernel
theorem dX0_carryOut_139 : decode cX0_carryOut 139 = .ok (.aload_n 0, 1) := by decide +kernel
theorem dX0_carryOut_140 : decode cX0_carryOut 140 = .ok (.getfield 21, 3) := by decide +kernel
theorem dX0_carryOut_143 : decode cX0_carryOut 143 = .ok (.aload_n 1, 1) := by decide +kernel
theorem dX0_carryOut_144 : decode cX0_carryOut 144 = .ok (.aload_n 2, 1) := by decide +kernel
theorem dX0_carryOut_145 : decode cX0_carryOut 145 = .ok (.invokevirtual 91, 3) := by decide +kernel
theorem dX0_carryOut_148 : decode cX0_carryOut 148 = .ok (.ifCond .eq 12, 3) := by decide +kernel
theorem dX0_carryOut_151 : decode cX0_carryOut 151 = .ok (.aload_n 0, 1) := by decide +kernel
theorem dX0_carryOut_152 : decode cX0_carryOut 152 = .ok (.aload_n 1, 1) := by decide +kernel
theorem dX0_carryOut_153 : decode cX0_carryOut 153 = .ok (.aload_n 2, 1) := by decide +kernel
theorem dX0_carryOut_154 : decode cX0_carryOut 154 = .ok (.invokevirtual 95, 3) := by decide +kernel
theorem dX0_carryOut_157 : decode cX0_carryOut 157 = .ok (.goto 4, 3) := by decide +kernel
theorem dX0_carryOut_160 : decode cX0_carryOut 160 = .ok (.iconst (-1), 1) := by decide +kernel
theorem dX0_carryOut_161 : decode cX0_carryOut 161 = .ok (.ireturn, 1) := by decide +kernel
theorem dX0_tickRefusal_0 : decode cX0_tickRefusal 0 = .ok (.aload_n 1, 1) := by decide +kernel
theorem dX0_tickRefusal_1 : decode cX0_tickRefusal 1 = .ok (.invokevirtual 98, 3) := by decide +kernel
theorem dX0_tickRefusal_4 : decode cX0_tickRefusal 4 = .ok (.ifCond .ne 5, 3) := by decide +kernel
theorem dX0_tickRefusal_7 : decode cX0_tickRefusal 7 = .ok (.iconst 0, 1) := by decide +kernel
theorem dX0_tickRefusal_8 : decode cX0_tickRefusal 8 = .ok (.ireturn, 1) := by decide +kernel
theorem dX0_tickRefusal_9 : decode cX0_tickRefusal 9 = .ok (.iload_n 3, 1) := by decide +kernel
theorem dX0_tickRefusal_10 : decode cX0_tickRefusal 10 = .ok (.iconst 1, 1) := by decide +kernel
theorem dX0_tickRefusal_11 : decode cX0_tickRefusal 11 = .ok (.if_icmp .lt 9, 3) := by decide +kernel
theorem dX0_tickRefusal_14 : decode cX0_tickRefusal 14 = .ok (.iload_n 3, 1) := by decide +kernel
theorem dX0_tickRefusal_15 : decode cX0_tickRefusal 15 = .ok (.bipush 60, 2) := by decide +kernel
theorem dX0_tickRefusal_17 : decode cX0_tickRefusal 17 = .ok (.if_icmp .le 5, 3) := by decide +kernel
theorem dX0_tickRefusal_20 : decode cX0_tickRefusal 20 = .ok (.iconst 1, 1) := by decide +kernel
theorem dX0_tickRefusal_21 : decode cX0_tickRefusal 21 = .ok (.ireturn, 1) := by decide +kernel
theorem dX0_tickRefusal_22 : decode cX0_tickRefusal 22 = .ok (.aload_n 2, 1) := by decide +kernel
theorem dX0_tickRefusal_23 : decode cX0_tickRefusal 23 = .ok (.getfield 104, 3) := by decide +kernel
theorem dX0_tickRefusal_26 : decode cX0_tickRefusal 26 = .ok (.iload_n 3, 1) := by decide +kernel
theorem dX0_tickRefusal_27 : decode cX0_tickRefusal 27 = .ok (.iadd, 1) := by decide +kernel
theorem dX0_tickRefusal_28 : decode cX0_tickRefusal 28 = .ok (.sipush 9999, 3) := by decide +kernel
theorem dX0_tickRefusal_31 : decode cX0_tickRefusal 31 = .ok (.if_icmp .le 7, 3) := by decide +kernel
theorem dX0_tickRefusal_34 : decode cX0_tickRefusal 34 = .ok (.iconst 3, 1) := by decide +kernel
theorem dX0_tickRefusal_35 : decode cX0_tickRefusal 35 = .ok (.goto 4, 3) := by decide +kernel
theorem dX0_tickRefusal_38 : decode cX0_tickRefusal 38 = .ok (.iconst (-1), 1) := by decide +kernel
theorem dX0_tickRefusal_39 : decode cX0_tickRefusal 39 = .ok (.ireturn, 1) := by decide +kernel
theorem dX0_moveRefusal_0 : decode cX0_moveRefusal 0 = .ok (.aload_n 1, 1) := by decide +kernel
theorem dX0_moveRefusal_1 : decode cX0_moveRefusal 1 = .ok (.iload_n 3, 1) := by decide +kernel
theorem dX0_moveRefusal_2 : decode cX0_moveRefusal 2 = .ok (.invokevirtual 107, 3) := by decide +kernel
theorem dX0_moveRefusal_5 : decode cX0_moveRefusal 5 = .ok (.ifCond .eq 12, 3) := by decide +kernel
theorem dX0_moveRefusal_8 : decode cX0_moveRefusal 8 = .ok (.aload_n 1, 1) := by decide +kernel
theorem dX0_moveRefusal_9 : decode cX0_moveRefusal 9 = .ok (.iload 4, 2) := by decide +kernel
theorem dX0_moveRefusal_11 : decode cX0_moveRefusal 11 = .ok (.invokevirtual 111, 3) := by decide +kernel
theorem dX0_moveRefusal_14 : decode cX0_moveRefusal 14 = .ok (.ifCond .ne 5, 3) := by decide +kernel
theorem dX0_moveRefusal_17 : decode cX0_moveRefusal 17 = .ok (.iconst 0, 1) := by decide +kernel
theorem dX0_moveRefusal_18 : decode cX0_moveRefusal 18 = .ok (.ireturn, 1) := by decide +kernel
theorem dX0_moveRefusal_19 : decode cX0_moveRefusal 19 = .ok (.aload_n 2, 1) := by decide +kernel
theorem dX0_moveRefusal_20 : decode cX0_moveRefusal 20 = .ok (.getfield 114, 3) := by decide +kernel
theorem dX0_moveRefusal_23 : decode cX0_moveRefusal 23 = .ok (.iload_n 3, 1) := by decide +kernel
theorem dX0_moveRefusal_24 : decode cX0_moveRefusal 24 = .ok (.iaload, 1) := by decide +kernel
theorem dX0_moveRefusal_25 : decode cX0_moveRefusal 25 = .ok (.iload 4, 2) := by decide +kernel
theorem dX0_moveRefusal_27 : decode cX0_moveRefusal 27 = .ok (.if_icmp .ne 7, 3) := by decide +kernel
theorem dX0_moveRefusal_30 : decode cX0_moveRefusal 30 = .ok (.iconst 2, 1) := by decide +kernel
theorem dX0_moveRefusal_31 : decode cX0_moveRefusal 31 = .ok (.goto 4, 3) := by decide +kernel
theorem dX0_moveRefusal_34 : decode cX0_moveRefusal 34 = .ok (.iconst (-1), 1) := by decide +kernel
theorem dX0_moveRefusal_35 : decode cX0_moveRefusal 35 = .ok (.ireturn, 1) := by decide +kernel
theorem dX0_askRefusal_0 : decode cX0_askRefusal 0 = .ok (.aload_n 3, 1) := by decide +kernel
theorem dX0_askRefusal_1 : decode cX0_askRefusal 1 = .ok (.getfield 25, 3) := by decide +kernel
theorem dX0_askRefusal_4 : decode cX0_askRefusal 4 = .ok (.iconst 0, 1) := by decide +kernel
theorem dX0_askRefusal_5 : decode cX0_askRefusal 5 = .ok (.iaload, 1) := by decide +kernel
theorem dX0_askRefusal_6 : decode cX0_askRefusal 6 = .ok (.istore 4, 2) := by decide +kernel
theorem dX0_askRefusal_8 : decode cX0_askRefusal 8 = .ok (.aload_n 3, 1) := by decide +kernel
theorem dX0_askRefusal_9 : decode cX0_askRefusal 9 = .ok (.getfield 25, 3) := by decide +kernel
theorem dX0_askRefusal_12 : decode cX0_askRefusal 12 = .ok (.iconst 1, 1) := by decide +kernel
theorem dX0_askRefusal_13 : decode cX0_askRefusal 13 = .ok (.iaload, 1) := by decide +kernel
theorem dX0_askRefusal_14 : decode cX0_askRefusal 14 = .ok (.istore 5, 2) := by decide +kernel
theorem dX0_askRefusal_16 : decode cX0_askRefusal 16 = .ok (.aload_n 3, 1) := by decide +kernel
theorem dX0_askRefusal_17 : decode cX0_askRefusal 17 = .ok (.getfield 25, 3) := by decide +kernel
theorem dX0_askRefusal_20 : decode cX0_askRefusal 20 = .ok (.iconst 2, 1) := by decide +kernel
theorem dX0_askRefusal_21 : decode cX0_askRefusal 21 = .ok (.iaload, 1) := by decide +kernel
theorem dX0_askRefusal_22 : decode cX0_askRefusal 22 = .ok (.istore 6, 2) := by decide +kernel
theorem dX0_askRefusal_24 : decode cX0_askRefusal 24 = .ok (.aload_n 1, 1) := by decide +kernel
theorem dX0_askRefusal_25 : decode cX0_askRefusal 25 = .ok (.iload 4, 2) := by decide +kernel
theorem dX0_askRefusal_27 : decode cX0_askRefusal 27 = .ok (.invokevirtual 117, 3) := by decide +kernel
theorem dX0_askRefusal_30 : decode cX0_askRefusal 30 = .ok (.ifCond .ne 5, 3) := by decide +kernel
theorem dX0_askRefusal_33 : decode cX0_askRefusal 33 = .ok (.iconst 0, 1) := by decide +kernel
theorem dX0_askRefusal_34 : decode cX0_askRefusal 34 = .ok (.ireturn, 1) := by decide +kernel
theorem dX0_askRefusal_35 : decode cX0_askRefusal 35 = .ok (.aload_n 1, 1) := by decide +kernel
theorem dX0_askRefusal_36 : decode cX0_askRefusal 36 = .ok (.iload 4, 2) := by decide +kernel
theorem dX0_askRefusal_38 : decode cX0_askRefusal 38 = .ok (.iload 5, 2) := by decide +kernel
theorem dX0_askRefusal_40 : decode cX0_askRefusal 40 = .ok (.invokevirtual 120, 3) := by decide +kernel
theorem dX0_askRefusal_43 : decode cX0_askRefusal 43 = .ok (.ifCond .eq 18, 3) := by decide +kernel
theorem dX0_askRefusal_46 : decode cX0_askRefusal 46 = .ok (.aload_n 1, 1) := by decide +kernel
theorem dX0_askRefusal_47 : decode cX0_askRefusal 47 = .ok (.iload 4, 2) := by decide +kernel
theorem dX0_askRefusal_49 : decode cX0_askRefusal 49 = .ok (.iload 6, 2) := by decide +kernel
theorem dX0_askRefusal_51 : decode cX0_askRefusal 51 = .ok (.invokevirtual 120, 3) := by decide +kernel
theorem dX0_askRefusal_54 : decode cX0_askRefusal 54 = .ok (.ifCond .eq 7, 3) := by decide +kernel
theorem dX0_askRefusal_57 : decode cX0_askRefusal 57 = .ok (.iconst 1, 1) := by decide +kernel
theorem dX0_askRefusal_58 : decode cX0_askRefusal 58 = .ok (.goto 4, 3) := by decide +kernel
theorem dX0_askRefusal_61 : decode cX0_askRefusal 61 = .ok (.iconst 0, 1) := by decide +kernel
theorem dX0_askRefusal_62 : decode cX0_askRefusal 62 = .ok (.istore 7, 2) := by decide +kernel
theorem dX0_askRefusal_64 : decode cX0_askRefusal 64 = .ok (.aload_n 3, 1) := by decide +kernel
theorem dX0_askRefusal_65 : decode cX0_askRefusal 65 = .ok (.getfield 64, 3) := by decide +kernel
theorem dX0_askRefusal_68 : decode cX0_askRefusal 68 = .ok (.lconst 0, 1) := by decide +kernel
theorem dX0_askRefusal_69 : decode cX0_askRefusal 69 = .ok (.lcmp, 1) := by decide +kernel
theorem dX0_askRefusal_70 : decode cX0_askRefusal 70 = .ok (.ifCond .eq 15, 3) := by decide +kernel
theorem dX0_askRefusal_73 : decode cX0_askRefusal 73 = .ok (.iload 7, 2) := by decide +kernel
theorem dX0_askRefusal_75 : decode cX0_askRefusal 75 = .ok (.ifCond .eq 10, 3) := by decide +kernel
theorem dX0_askRefusal_78 : decode cX0_askRefusal 78 = .ok (.iload 5, 2) := by decide +kernel
theorem dX0_askRefusal_80 : decode cX0_askRefusal 80 = .ok (.iload 6, 2) := by decide +kernel
theorem dX0_askRefusal_82 : decode cX0_askRefusal 82 = .ok (.if_icmp .le 5, 3) := by decide +kernel
theorem dX0_askRefusal_85 : decode cX0_askRefusal 85 = .ok (.iconst 1, 1) := by decide +kernel
theorem dX0_askRefusal_86 : decode cX0_askRefusal 86 = .ok (.ireturn, 1) := by decide +kernel
theorem dX0_askRefusal_87 : decode cX0_askRefusal 87 = .ok (.aload_n 2, 1) := by decide +kernel
theorem dX0_askRefusal_88 : decode cX0_askRefusal 88 = .ok (.aload_n 3, 1) := by decide +kernel
theorem dX0_askRefusal_89 : decode cX0_askRefusal 89 = .ok (.getfield 64, 3) := by decide +kernel
theorem dX0_askRefusal_92 : decode cX0_askRefusal 92 = .ok (.iload 4, 2) := by decide +kernel
theorem dX0_askRefusal_94 : decode cX0_askRefusal 94 = .ok (.invokevirtual 74, 3) := by decide +kernel
theorem dX0_askRefusal_97 : decode cX0_askRefusal 97 = .ok (.istore 8, 2) := by decide +kernel
theorem dX0_askRefusal_99 : decode cX0_askRefusal 99 = .ok (.iload 8, 2) := by decide +kernel
theorem dX0_askRefusal_101 : decode cX0_askRefusal 101 = .ok (.iconst (-1), 1) := by decide +kernel
theorem dX0_askRefusal_102 : decode cX0_askRefusal 102 = .ok (.if_icmp .ne 18, 3) := by decide +kernel
theorem dX0_askRefusal_105 : decode cX0_askRefusal 105 = .ok (.aload_n 2, 1) := by decide +kernel
theorem dX0_askRefusal_106 : decode cX0_askRefusal 106 = .ok (.getfield 82, 3) := by decide +kernel
theorem dX0_askRefusal_109 : decode cX0_askRefusal 109 = .ok (.bipush 6, 2) := by decide +kernel
theorem dX0_askRefusal_111 : decode cX0_askRefusal 111 = .ok (.if_icmp .lt 7, 3) := by decide +kernel
theorem dX0_askRefusal_114 : decode cX0_askRefusal 114 = .ok (.iconst 3, 1) := by decide +kernel
theorem dX0_askRefusal_115 : decode cX0_askRefusal 115 = .ok (.goto 4, 3) := by decide +kernel
theorem dX0_askRefusal_118 : decode cX0_askRefusal 118 = .ok (.iconst (-1), 1) := by decide +kernel
theorem dX0_askRefusal_119 : decode cX0_askRefusal 119 = .ok (.ireturn, 1) := by decide +kernel
theorem dX0_askRefusal_120 : decode cX0_askRefusal 120 = .ok (.aload_n 2, 1) := by decide +kernel
theorem dX0_askRefusal_121 : decode cX0_askRefusal 121 = .ok (.getfield 124, 3) := by decide +kernel
theorem dX0_askRefusal_124 : decode cX0_askRefusal 124 = .ok (.iload 8, 2) := by decide +kernel
theorem dX0_askRefusal_126 : decode cX0_askRefusal 126 = .ok (.iaload, 1) := by decide +kernel
theorem dX0_askRefusal_127 : decode cX0_askRefusal 127 = .ok (.iload 5, 2) := by decide +kernel
theorem dX0_askRefusal_129 : decode cX0_askRefusal 129 = .ok (.if_icmp .ne 19, 3) := by decide +kernel
theorem dX0_askRefusal_132 : decode cX0_askRefusal 132 = .ok (.aload_n 2, 1) := by decide +kernel
theorem dX0_askRefusal_133 : decode cX0_askRefusal 133 = .ok (.getfield 127, 3) := by decide +kernel
theorem dX0_askRefusal_136 : decode cX0_askRefusal 136 = .ok (.iload 8, 2) := by decide +kernel
theorem dX0_askRefusal_138 : decode cX0_askRefusal 138 = .ok (.iaload, 1) := by decide +kernel
theorem dX0_askRefusal_139 : decode cX0_askRefusal 139 = .ok (.iload 6, 2) := by decide +kernel
theorem dX0_askRefusal_141 : decode cX0_askRefusal 141 = .ok (.if_icmp .ne 7, 3) := by decide +kernel
theorem dX0_askRefusal_144 : decode cX0_askRefusal 144 = .ok (.iconst 2, 1) := by decide +kernel
theorem dX0_askRefusal_145 : decode cX0_askRefusal 145 = .ok (.goto 4, 3) := by decide +kernel
theorem dX0_askRefusal_148 : decode cX0_askRefusal 148 = .ok (.iconst (-1), 1) := by decide +kernel
theorem dX0_askRefusal_149 : decode cX0_askRefusal 149 = .ok (.ireturn, 1) := by decide +kernel
theorem dX0_dropRefusal_0 : decode cX0_dropRefusal 0 = .ok (.aload_n 1, 1) := by decide +kernel
theorem dX0_dropRefusal_1 : decode cX0_dropRefusal 1 = .ok (.aload_n 3, 1) := by decide +kernel
theorem dX0_dropRefusal_2 : decode cX0_dropRefusal 2 = .ok (.getfield 25, 3) := by decide +kernel
theorem dX0_dropRefusal_5 : decode cX0_dropRefusal 5 = .ok (.iconst 0, 1) := by decide +kernel
theorem dX0_dropRefusal_6 : decode cX0_dropRefusal 6 = .ok (.iaload, 1) := by decide +kernel
theorem dX0_dropRefusal_7 : decode cX0_dropRefusal 7 = .ok (.invokevirtual 117, 3) := by decide +kernel
theorem dX0_dropRefusal_10 : decode cX0_dropRefusal 10 = .ok (.ifCond .ne 5, 3) := by decide +kernel
theorem dX0_dropRefusal_13 : decode cX0_dropRefusal 13 = .ok (.iconst 0, 1) := by decide +kernel
theorem dX0_dropRefusal_14 : decode cX0_dropRefusal 14 = .ok (.ireturn, 1) := by decide +kernel
theorem dX0_dropRefusal_15 : decode cX0_dropRefusal 15 = .ok (.aload_n 3, 1) := by decide +kernel
theorem dX0_dropRefusal_16 : decode cX0_dropRefusal 16 = .ok (.getfield 64, 3) := by decide +kernel
theorem dX0_dropRefusal_19 : decode cX0_dropRefusal 19 = .ok (.lconst 0, 1) := by decide +kernel
theorem dX0_dropRefusal_20 : decode cX0_dropRefusal 20 = .ok (.lcmp, 1) := by decide +kernel
theorem dX0_dropRefusal_21 : decode cX0_dropRefusal 21 = .ok (.ifCond .ne 5, 3) := by decide +kernel
theorem dX0_dropRefusal_24 : decode cX0_dropRefusal 24 = .ok (.iconst 1, 1) := by decide +kernel
theorem dX0_dropRefusal_25 : decode cX0_dropRefusal 25 = .ok (.ireturn, 1) := by decide +kernel
theorem dX0_dropRefusal_26 : decode cX0_dropRefusal 26 = .ok (.aload_n 2, 1) := by decide +kernel
theorem dX0_dropRefusal_27 : decode cX0_dropRefusal 27 = .ok (.aload_n 3, 1) := by decide +kernel
theorem dX0_dropRefusal_28 : decode cX0_dropRefusal 28 = .ok (.getfield 64, 3) := by decide +kernel
theorem dX0_dropRefusal_31 : decode cX0_dropRefusal 31 = .ok (.aload_n 3, 1) := by decide +kernel
theorem dX0_dropRefusal_32 : decode cX0_dropRefusal 32 = .ok (.getfield 25, 3) := by decide +kernel
theorem dX0_dropRefusal_35 : decode cX0_dropRefusal 35 = .ok (.iconst 0, 1) := by decide +kernel
theorem dX0_dropRefusal_36 : decode cX0_dropRefusal 36 = .ok (.iaload, 1) := by decide +kernel
theorem dX0_dropRefusal_37 : decode cX0_dropRefusal 37 = .ok (.invokevirtual 74, 3) := by decide +kernel
theorem dX0_dropRefusal_40 : decode cX0_dropRefusal 40 = .ok (.iconst (-1), 1) := by decide +kernel
theorem dX0_dropRefusal_41 : decode cX0_dropRefusal 41 = .ok (.if_icmp .ne 7, 3) := by decide +kernel
theorem dX0_dropRefusal_44 : decode cX0_dropRefusal 44 = .ok (.iconst 2, 1) := by decide +kernel
theorem dX0_dropRefusal_45 : decode cX0_dropRefusal 45 = .ok (.goto 4, 3) := by decide +kernel
theorem dX0_dropRefusal_48 : decode cX0_dropRefusal 48 = .ok (.iconst (-1), 1) := by decide +kernel
theorem dX0_dropRefusal_49 : decode cX0_dropRefusal 49 = .ok (.ireturn, 1) := by decide +kernel
theorem dX0_stopRefusal_0 : decode cX0_stopRefusal 0 = .ok (.aload_n 1, 1) := by decide +kernel
theorem dX0_stopRefusal_1 : decode cX0_stopRefusal 1 = .ok (.iload_n 3, 1) := by decide +kernel
theorem dX0_stopRefusal_2 : decode cX0_stopRefusal 2 = .ok (.invokevirtual 107, 3) := by decide +kernel
theorem dX0_stopRefusal_5 : decode cX0_stopRefusal 5 = .ok (.ifCond .ne 5, 3) := by decide +kernel
theorem dX0_stopRefusal_8 : decode cX0_stopRefusal 8 = .ok (.iconst 0, 1) := by decide +kernel
theorem dX0_stopRefusal_9 : decode cX0_stopRefusal 9 = .ok (.ireturn, 1) := by decide +kernel
theorem dX0_stopRefusal_10 : decode cX0_stopRefusal 10 = .ok (.aload_n 2, 1) := by decide +kernel
theorem dX0_stopRefusal_11 : decode cX0_stopRefusal 11 = .ok (.iload_n 3, 1) := by decide +kernel
theorem dX0_stopRefusal_12 : decode cX0_stopRefusal 12 = .ok (.invokevirtual 130, 3) := by decide +kernel
theorem dX0_stopRefusal_15 : decode cX0_stopRefusal 15 = .ok (.iload 4, 2) := by decide +kernel
theorem dX0_stopRefusal_17 : decode cX0_stopRefusal 17 = .ok (.if_icmp .ne 7, 3) := by decide +kernel
theorem dX0_stopRefusal_20 : decode cX0_stopRefusal 20 = .ok (.iconst 2, 1) := by decide +kernel
theorem dX0_stopRefusal_21 : decode cX0_stopRefusal 21 = .ok (.goto 4, 3) := by decide +kernel
theorem dX0_stopRefusal_24 : decode cX0_stopRefusal 24 = .ok (.iconst (-1), 1) := by decide +kernel
theorem dX0_stopRefusal_25 : decode cX0_stopRefusal 25 = .ok (.ireturn, 1) := by decide +kernel
theorem dX0_settleRefusal_0 : decode cX0_settleRefusal 0 = .ok (.aload_n 1, 1) := by decide +kernel
theorem dX0_settleRefusal_1 : decode cX0_settleRefusal 1 = .ok (.invokevirtual 98, 3) := by decide +kernel
theorem dX0_settleRefusal_4 : decode cX0_settleRefusal 4 = .ok (.ifCond .ne 5, 3) := by decide +kernel
theorem dX0_settleRefusal_7 : decode cX0_settleRefusal 7 = .ok (.iconst 0, 1) := by decide +kernel
theorem dX0_settleRefusal_8 : decode cX0_settleRefusal 8 = .ok (.ireturn, 1) := by decide +kernel
theorem dX0_settleRefusal_9 : decode cX0_settleRefusal 9 = .ok (.aload_n 0, 1) := by decide +kernel
theorem dX0_settleRefusal_10 : decode cX0_settleRefusal 10 = .ok (.getfield 21, 3) := by decide +kernel
theorem dX0_settleRefusal_13 : decode cX0_settleRefusal 13 = .ok (.aload_n 1, 1) := by decide +kernel
theorem dX0_settleRefusal_14 : decode cX0_settleRefusal 14 = .ok (.aload_n 2, 1) := by decide +kernel
theorem dX0_settleRefusal_15 : decode cX0_settleRefusal 15 = .ok (.invokevirtual 91, 3) := by decide +kernel
theorem dX0_settleRefusal_18 : decode cX0_settleRefusal 18 = .ok (.ifCond .ne 5, 3) := by decide +kernel
theorem dX0_settleRefusal_21 : decode cX0_settleRefusal 21 = .ok (.iconst 3, 1) := by decide +kernel
theorem dX0_settleRefusal_22 : decode cX0_settleRefusal 22 = .ok (.ireturn, 1) := by decide +kernel
theorem dX0_settleRefusal_23 : decode cX0_settleRefusal 23 = .ok (.aload_n 0, 1) := by decide +kernel
theorem dX0_settleRefusal_24 : decode cX0_settleRefusal 24 = .ok (.aload_n 1, 1) := by decide +kernel
theorem dX0_settleRefusal_25 : decode cX0_settleRefusal 25 = .ok (.aload_n 2, 1) := by decide +kernel
theorem dX0_settleRefusal_26 : decode cX0_settleRefusal 26 = .ok (.invokevirtual 133, 3) := by decide +kernel
theorem dX0_settleRefusal_29 : decode cX0_settleRefusal 29 = .ok (.ifCond .ne 7, 3) := by decide +kernel
theorem dX0_settleRefusal_32 : decode cX0_settleRefusal 32 = .ok (.iconst 2, 1) := by decide +kernel
theorem dX0_settleRefusal_33 : decode cX0_settleRefusal 33 = .ok (.goto 4, 3) := by decide +kernel
theorem dX0_settleRefusal_36 : decode cX0_settleRefusal 36 = .ok (.iconst (-1), 1) := by decide +kernel
theorem dX0_settleRefusal_37 : decode cX0_settleRefusal 37 = .ok (.ireturn, 1) := by decide +kernel
theorem dX0_movedForBest_0 : decode cX0_movedForBest 0 = .ok (.iconst 0, 1) := by decide +kernel
theorem dX0_movedForBest_1 : decode cX0_movedForBest 1 = .ok (.istore_n 3, 1) := by decide +kernel
theorem dX0_movedForBest_2 : decode cX0_movedForBest 2 = .ok (.iconst 0, 1) := by decide +kernel
theorem dX0_movedForBest_3 : decode cX0_movedForBest 3 = .ok (.istore 4, 2) := by decide +kernel
theorem dX0_movedForBest_5 : decode cX0_movedForBest 5 = .ok (.iload 4, 2) := by decide +kernel
theorem dX0_movedForBest_7 : decode cX0_movedForBest 7 = .ok (.aload_n 1, 1) := by decide +kernel
theorem dX0_movedForBest_8 : decode cX0_movedForBest 8 = .ok (.getfield 136, 3) := by decide +kernel
theorem dX0_movedForBest_11 : decode cX0_movedForBest 11 = .ok (.if_icmp .ge 37, 3) := by decide +kernel
theorem dX0_movedForBest_14 : decode cX0_movedForBest 14 = .ok (.iload_n 3, 1) := by decide +kernel
theorem dX0_movedForBest_15 : decode cX0_movedForBest 15 = .ok (.aload_n 2, 1) := by decide +kernel
theorem dX0_movedForBest_16 : decode cX0_movedForBest 16 = .ok (.getfield 114, 3) := by decide +kernel
theorem dX0_movedForBest_19 : decode cX0_movedForBest 19 = .ok (.iload 4, 2) := by decide +kernel
theorem dX0_movedForBest_21 : decode cX0_movedForBest 21 = .ok (.iaload, 1) := by decide +kernel
theorem dX0_movedForBest_22 : decode cX0_movedForBest 22 = .ok (.aload_n 0, 1) := by decide +kernel
theorem dX0_movedForBest_23 : decode cX0_movedForBest 23 = .ok (.getfield 21, 3) := by decide +kernel
theorem dX0_movedForBest_26 : decode cX0_movedForBest 26 = .ok (.getfield 139, 3) := by decide +kernel
theorem dX0_movedForBest_29 : decode cX0_movedForBest 29 = .ok (.iload 4, 2) := by decide +kernel
theorem dX0_movedForBest_31 : decode cX0_movedForBest 31 = .ok (.iaload, 1) := by decide +kernel
theorem dX0_movedForBest_32 : decode cX0_movedForBest 32 = .ok (.if_icmp .eq 7, 3) := by decide +kernel
theorem dX0_movedForBest_35 : decode cX0_movedForBest 35 = .ok (.iconst 1, 1) := by decide +kernel
theorem dX0_movedForBest_36 : decode cX0_movedForBest 36 = .ok (.goto 4, 3) := by decide +kernel
theorem dX0_movedForBest_39 : decode cX0_movedForBest 39 = .ok (.iconst 0, 1) := by decide +kernel
theorem dX0_movedForBest_40 : decode cX0_movedForBest 40 = .ok (.iadd, 1) := by decide +kernel
theorem dX0_movedForBest_41 : decode cX0_movedForBest 41 = .ok (.istore_n 3, 1) := by decide +kernel
theorem dX0_movedForBest_42 : decode cX0_movedForBest 42 = .ok (.iinc 4 1, 3) := by decide +kernel
theorem dX0_movedForBest_45 : decode cX0_movedForBest 45 = .ok (.goto (-40), 3) := by decide +kernel
theorem dX0_movedForBest_48 : decode cX0_movedForBest 48 = .ok (.iload_n 3, 1) := by decide +kernel
theorem dX0_movedForBest_49 : decode cX0_movedForBest 49 = .ok (.ireturn, 1) := by decide +kernel
theorem dX0_putOn_0 : decode cX0_putOn 0 = .ok (.aload_n 1, 1) := by decide +kernel
theorem dX0_putOn_1 : decode cX0_putOn 1 = .ok (.iload_n 3, 1) := by decide +kernel
theorem dX0_putOn_2 : decode cX0_putOn 2 = .ok (.invokevirtual 107, 3) := by decide +kernel
theorem dX0_putOn_5 : decode cX0_putOn 5 = .ok (.ifCond .ne 5, 3) := by decide +kernel
theorem dX0_putOn_8 : decode cX0_putOn 8 = .ok (.iconst (-1), 1) := by decide +kernel
theorem dX0_putOn_9 : decode cX0_putOn 9 = .ok (.ireturn, 1) := by decide +kernel
theorem dX0_putOn_10 : decode cX0_putOn 10 = .ok (.aload_n 2, 1) := by decide +kernel
theorem dX0_putOn_11 : decode cX0_putOn 11 = .ok (.getfield 114, 3) := by decide +kernel
theorem dX0_putOn_14 : decode cX0_putOn 14 = .ok (.iload_n 3, 1) := by decide +kernel
theorem dX0_putOn_15 : decode cX0_putOn 15 = .ok (.iaload, 1) := by decide +kernel
theorem dX0_putOn_16 : decode cX0_putOn 16 = .ok (.istore 5, 2) := by decide +kernel
theorem dX0_putOn_18 : decode cX0_putOn 18 = .ok (.aload_n 2, 1) := by decide +kernel
theorem dX0_putOn_19 : decode cX0_putOn 19 = .ok (.getfield 114, 3) := by decide +kernel
theorem dX0_putOn_22 : decode cX0_putOn 22 = .ok (.iload_n 3, 1) := by decide +kernel
theorem dX0_putOn_23 : decode cX0_putOn 23 = .ok (.iload 4, 2) := by decide +kernel
theorem dX0_putOn_25 : decode cX0_putOn 25 = .ok (.iastore, 1) := by decide +kernel
theorem dX0_putOn_26 : decode cX0_putOn 26 = .ok (.iload 5, 2) := by decide +kernel
theorem dX0_putOn_28 : decode cX0_putOn 28 = .ok (.ireturn, 1) := by decide +kernel
theorem dX0_halt_0 : decode cX0_halt 0 = .ok (.aload_n 1, 1) := by decide +kernel
theorem dX0_halt_1 : decode cX0_halt 1 = .ok (.iload_n 3, 1) := by decide +kernel
theorem dX0_halt_2 : decode cX0_halt 2 = .ok (.invokevirtual 107, 3) := by decide +kernel
theorem dX0_halt_5 : decode cX0_halt 5 = .ok (.ifCond .ne 5, 3) := by decide +kernel
theorem dX0_halt_8 : decode cX0_halt 8 = .ok (.iconst (-1), 1) := by decide +kernel
theorem dX0_halt_9 : decode cX0_halt 9 = .ok (.ireturn, 1) := by decide +kernel
theorem dX0_halt_10 : decode cX0_halt 10 = .ok (.aload_n 2, 1) := by decide +kernel
theorem dX0_halt_11 : decode cX0_halt 11 = .ok (.getfield 142, 3) := by decide +kernel
theorem dX0_halt_14 : decode cX0_halt 14 = .ok (.iload_n 3, 1) := by decide +kernel
theorem dX0_halt_15 : decode cX0_halt 15 = .ok (.iaload, 1) := by decide +kernel
theorem dX0_halt_16 : decode cX0_halt 16 = .ok (.istore 4, 2) := by decide +kernel
theorem dX0_halt_18 : decode cX0_halt 18 = .ok (.aload_n 2, 1) := by decide +kernel
theorem dX0_halt_19 : decode cX0_halt 19 = .ok (.getfield 142, 3) := by decide +kernel
theorem dX0_halt_22 : decode cX0_halt 22 = .ok (.iload_n 3, 1) := by decide +kernel
theorem dX0_halt_23 : decode cX0_halt 23 = .ok (.iconst 0, 1) := by decide +kernel
theorem dX0_halt_24 : decode cX0_halt 24 = .ok (.iastore, 1) := by decide +kernel
theorem dX0_halt_25 : decode cX0_halt 25 = .ok (.aload_n 2, 1) := by decide +kernel
theorem dX0_halt_26 : decode cX0_halt 26 = .ok (.aload_n 2, 1) := by decide +kernel
theorem dX0_halt_27 : decode cX0_halt 27 = .ok (.getfield 145, 3) := by decide +kernel
theorem dX0_halt_30 : decode cX0_halt 30 = .ok (.iload_n 3, 1) := by decide +kernel
theorem dX0_halt_31 : decode cX0_halt 31 = .ok (.iconst 1, 1) := by decide +kernel
theorem dX0_halt_32 : decode cX0_halt 32 = .ok (.invokestatic 148, 3) := by decide +kernel
theorem dX0_halt_35 : decode cX0_halt 35 = .ok (.putfield 145, 3) := by decide +kernel
theorem dX0_halt_38 : decode cX0_halt 38 = .ok (.iload 4, 2) := by decide +kernel
theorem dX0_halt_40 : decode cX0_halt 40 = .ok (.ireturn, 1) := by decide +kernel
theorem dX0_resume_0 : decode cX0_resume 0 = .ok (.aload_n 1, 1) := by decide +kernel
theorem dX0_resume_1 : decode cX0_resume 1 = .ok (.iload_n 3, 1) := by decide +kernel
theorem dX0_resume_2 : decode cX0_resume 2 = .ok (.invokevirtual 107, 3) := by decide +kernel
theorem dX0_resume_5 : decode cX0_resume 5 = .ok (.ifCond .ne 5, 3) := by decide +kernel
theorem dX0_resume_8 : decode cX0_resume 8 = .ok (.iconst (-1), 1) := by decide +kernel
theorem dX0_resume_9 : decode cX0_resume 9 = .ok (.ireturn, 1) := by decide +kernel
theorem dX0_resume_10 : decode cX0_resume 10 = .ok (.aload_n 2, 1) := by decide +kernel
theorem dX0_resume_11 : decode cX0_resume 11 = .ok (.aload_n 2, 1) := by decide +kernel
theorem dX0_resume_12 : decode cX0_resume 12 = .ok (.getfield 145, 3) := by decide +kernel
theorem dX0_resume_15 : decode cX0_resume 15 = .ok (.iload_n 3, 1) := by decide +kernel
theorem dX0_resume_16 : decode cX0_resume 16 = .ok (.iconst 0, 1) := by decide +kernel
theorem dX0_resume_17 : decode cX0_resume 17 = .ok (.invokestatic 148, 3) := by decide +kernel
theorem dX0_resume_20 : decode cX0_resume 20 = .ok (.putfield 145, 3) := by decide +kernel
theorem dX0_resume_23 : decode cX0_resume 23 = .ok (.aload_n 2, 1) := by decide +kernel
theorem dX0_resume_24 : decode cX0_resume 24 = .ok (.getfield 104, 3) := by decide +kernel
theorem dX0_resume_27 : decode cX0_resume 27 = .ok (.ireturn, 1) := by decide +kernel
theorem dX0_standBest_0 : decode cX0_standBest 0 = .ok (.aload_n 0, 1) := by decide +kernel
theorem dX0_standBest_1 : decode cX0_standBest 1 = .ok (.aload_n 1, 1) := by decide +kernel
theorem dX0_standBest_2 : decode cX0_standBest 2 = .ok (.aload_n 2, 1) := by decide +kernel
theorem dX0_standBest_3 : decode cX0_standBest 3 = .ok (.invokevirtual 133, 3) := by decide +kernel
theorem dX0_standBest_6 : decode cX0_standBest 6 = .ok (.istore_n 3, 1) := by decide +kernel
theorem dX0_standBest_7 : decode cX0_standBest 7 = .ok (.aload_n 0, 1) := by decide +kernel
theorem dX0_standBest_8 : decode cX0_standBest 8 = .ok (.getfield 21, 3) := by decide +kernel
theorem dX0_standBest_11 : decode cX0_standBest 11 = .ok (.getfield 139, 3) := by decide +kernel
theorem dX0_standBest_14 : decode cX0_standBest 14 = .ok (.iconst 0, 1) := by decide +kernel
theorem dX0_standBest_15 : decode cX0_standBest 15 = .ok (.aload_n 2, 1) := by decide +kernel
theorem dX0_standBest_16 : decode cX0_standBest 16 = .ok (.getfield 114, 3) := by decide +kernel
theorem dX0_standBest_19 : decode cX0_standBest 19 = .ok (.iconst 0, 1) := by decide +kernel
theorem dX0_standBest_20 : decode cX0_standBest 20 = .ok (.iconst 4, 1) := by decide +kernel
theorem dX0_standBest_21 : decode cX0_standBest 21 = .ok (.invokestatic 152, 3) := by decide +kernel
theorem dX0_standBest_24 : decode cX0_standBest 24 = .ok (.iload_n 3, 1) := by decide +kernel
theorem dX0_standBest_25 : decode cX0_standBest 25 = .ok (.ireturn, 1) := by decide +kernel
theorem dX1_init_0 : decode cX1_init 0 = .ok (.aload_n 0, 1) := by decide +kernel
theorem dX1_init_1 : decode cX1_init 1 = .ok (.invokespecial 3, 3) := by decide +kernel
theorem dX1_init_4 : decode cX1_init 4 = .ok (.aload_n 0, 1) := by decide +kernel
theorem dX1_init_5 : decode cX1_init 5 = .ok (.iconst 3, 1) := by decide +kernel
theorem dX1_init_6 : decode cX1_init 6 = .ok (.newarray .long, 2) := by decide +kernel
theorem dX1_init_8 : decode cX1_init 8 = .ok (.putfield 9, 3) := by decide +kernel
theorem dX1_init_11 : decode cX1_init 11 = .ok (.aload_n 0, 1) := by decide +kernel
theorem dX1_init_12 : decode cX1_init 12 = .ok (.iconst 3, 1) := by decide +kernel
theorem dX1_init_13 : decode cX1_init 13 = .ok (.newarray .int, 2) := by decide +kernel
theorem dX1_init_15 : decode cX1_init 15 = .ok (.putfield 15, 3) := by decide +kernel
theorem dX1_init_18 : decode cX1_init 18 = .ok (.aload_n 0, 1) := by decide +kernel
theorem dX1_init_19 : decode cX1_init 19 = .ok (.iconst 3, 1) := by decide +kernel
theorem dX1_init_20 : decode cX1_init 20 = .ok (.newarray .int, 2) := by decide +kernel
theorem dX1_init_22 : decode cX1_init 22 = .ok (.putfield 19, 3) := by decide +kernel
theorem dX1_init_25 : decode cX1_init 25 = .ok (.aload_n 0, 1) := by decide +kernel
theorem dX1_init_26 : decode cX1_init 26 = .ok (.iconst 3, 1) := by decide +kernel
theorem dX1_init_27 : decode cX1_init 27 = .ok (.newarray .int, 2) := by decide +kernel
theorem dX1_init_29 : decode cX1_init 29 = .ok (.putfield 22, 3) := by decide +kernel
theorem dX1_init_32 : decode cX1_init 32 = .ok (.aload_n 0, 1) := by decide +kernel
theorem dX1_init_33 : decode cX1_init 33 = .ok (.iconst 3, 1) := by decide +kernel
theorem dX1_init_34 : decode cX1_init 34 = .ok (.newarray .int, 2) := by decide +kernel
theorem dX1_init_36 : decode cX1_init 36 = .ok (.putfield 25, 3) := by decide +kernel
theorem dX1_init_39 : decode cX1_init 39 = .ok (.aload_n 0, 1) := by decide +kernel
theorem dX1_init_40 : decode cX1_init 40 = .ok (.iconst 3, 1) := by decide +kernel
theorem dX1_init_41 : decode cX1_init 41 = .ok (.iconst 5, 1) := by decide +kernel
theorem dX1_init_42 : decode cX1_init 42 = .ok (.multianewarray 28 2, 4) := by decide +kernel
theorem dX1_init_46 : decode cX1_init 46 = .ok (.putfield 30, 3) := by decide +kernel
theorem dX1_init_49 : decode cX1_init 49 = .ok (.aload_n 0, 1) := by decide +kernel
theorem dX1_init_50 : decode cX1_init 50 = .ok (.iconst 3, 1) := by decide +kernel
theorem dX1_init_51 : decode cX1_init 51 = .ok (.iconst 5, 1) := by decide +kernel
theorem dX1_init_52 : decode cX1_init 52 = .ok (.multianewarray 28 2, 4) := by decide +kernel
theorem dX1_init_56 : decode cX1_init 56 = .ok (.putfield 33, 3) := by decide +kernel
theorem dX1_init_59 : decode cX1_init 59 = .ok (.aload_n 0, 1) := by decide +kernel
theorem dX1_init_60 : decode cX1_init 60 = .ok (.bipush 6, 2) := by decide +kernel
theorem dX1_init_62 : decode cX1_init 62 = .ok (.newarray .int, 2) := by decide +kernel
theorem dX1_init_64 : decode cX1_init 64 = .ok (.putfield 36, 3) := by decide +kernel
theorem dX1_init_67 : decode cX1_init 67 = .ok (.aload_n 0, 1) := by decide +kernel
theorem dX1_init_68 : decode cX1_init 68 = .ok (.iconst 4, 1) := by decide +kernel
theorem dX1_init_69 : decode cX1_init 69 = .ok (.newarray .long, 2) := by decide +kernel
theorem dX1_init_71 : decode cX1_init 71 = .ok (.putfield 39, 3) := by decide +kernel
theorem dX1_init_74 : decode cX1_init 74 = .ok (.aload_n 0, 1) := by decide +kernel
theorem dX1_init_75 : decode cX1_init 75 = .ok (.iconst 4, 1) := by decide +kernel
theorem dX1_init_76 : decode cX1_init 76 = .ok (.newarray .int, 2) := by decide +kernel
theorem dX1_init_78 : decode cX1_init 78 = .ok (.putfield 42, 3) := by decide +kernel
theorem dX1_init_81 : decode cX1_init 81 = .ok (.aload_n 0, 1) := by decide +kernel
theorem dX1_init_82 : decode cX1_init 82 = .ok (.iconst 4, 1) := by decide +kernel
theorem dX1_init_83 : decode cX1_init 83 = .ok (.newarray .int, 2) := by decide +kernel
theorem dX1_init_85 : decode cX1_init 85 = .ok (.putfield 45, 3) := by decide +kernel
theorem dX1_init_88 : decode cX1_init 88 = .ok (.aload_n 0, 1) := by decide +kernel
theorem dX1_init_89 : decode cX1_init 89 = .ok (.bipush 6, 2) := by decide +kernel
theorem dX1_init_91 : decode cX1_init 91 = .ok (.newarray .int, 2) := by decide +kernel
theorem dX1_init_93 : decode cX1_init 93 = .ok (.putfield 48, 3) := by decide +kernel
theorem dX1_init_96 : decode cX1_init 96 = .ok (.return_, 1) := by decide +kernel
theorem dX1_begin_0 : decode cX1_begin 0 = .ok (.aload_n 0, 1) := by decide +kernel
theorem dX1_begin_1 : decode cX1_begin 1 = .ok (.iconst 0, 1) := by decide +kernel
theorem dX1_begin_2 : decode cX1_begin 2 = .ok (.putfield 51, 3) := by decide +kernel
theorem dX1_begin_5 : decode cX1_begin 5 = .ok (.aload_n 0, 1) := by decide +kernel
theorem dX1_begin_6 : decode cX1_begin 6 = .ok (.iconst 0, 1) := by decide +kernel
theorem dX1_begin_7 : decode cX1_begin 7 = .ok (.putfield 55, 3) := by decide +kernel
theorem dX1_begin_10 : decode cX1_begin 10 = .ok (.aload_n 0, 1) := by decide +kernel
theorem dX1_begin_11 : decode cX1_begin 11 = .ok (.iconst 0, 1) := by decide +kernel
theorem dX1_begin_12 : decode cX1_begin 12 = .ok (.putfield 58, 3) := by decide +kernel
theorem dX1_begin_15 : decode cX1_begin 15 = .ok (.aload_n 0, 1) := by decide +kernel
theorem dX1_begin_16 : decode cX1_begin 16 = .ok (.iconst 0, 1) := by decide +kernel
theorem dX1_begin_17 : decode cX1_begin 17 = .ok (.putfield 61, 3) := by decide +kernel
theorem dX1_begin_20 : decode cX1_begin 20 = .ok (.aload_n 0, 1) := by decide +kernel
theorem dX1_begin_21 : decode cX1_begin 21 = .ok (.iconst 0, 1) := by decide +kernel
theorem dX1_begin_22 : decode cX1_begin 22 = .ok (.putfield 64, 3) := by decide +kernel
theorem dX1_begin_25 : decode cX1_begin 25 = .ok (.getstatic 67, 3) := by decide +kernel
theorem dX1_begin_28 : decode cX1_begin 28 = .ok (.iconst 0, 1) := by decide +kernel
theorem dX1_begin_29 : decode cX1_begin 29 = .ok (.aload_n 0, 1) := by decide +kernel
theorem dX1_begin_30 : decode cX1_begin 30 = .ok (.getfield 48, 3) := by decide +kernel
theorem dX1_begin_33 : decode cX1_begin 33 = .ok (.iconst 0, 1) := by decide +kernel
theorem dX1_begin_34 : decode cX1_begin 34 = .ok (.bipush 6, 2) := by decide +kernel
theorem dX1_begin_36 : decode cX1_begin 36 = .ok (.invokestatic 70, 3) := by decide +kernel
theorem dX1_begin_39 : decode cX1_begin 39 = .ok (.return_, 1) := by decide +kernel
theorem dX1_addCluster_0 : decode cX1_addCluster 0 = .ok (.aload_n 0, 1) := by decide +kernel
theorem dX1_addCluster_1 : decode cX1_addCluster 1 = .ok (.getfield 51, 3) := by decide +kernel
theorem dX1_addCluster_4 : decode cX1_addCluster 4 = .ok (.iconst 3, 1) := by decide +kernel
theorem dX1_addCluster_5 : decode cX1_addCluster 5 = .ok (.if_icmp .ge 14, 3) := by decide +kernel
theorem dX1_addCluster_8 : decode cX1_addCluster 8 = .ok (.aload_n 0, 1) := by decide +kernel
theorem dX1_addCluster_9 : decode cX1_addCluster 9 = .ok (.getfield 58, 3) := by decide +kernel
theorem dX1_addCluster_12 : decode cX1_addCluster 12 = .ok (.iload_n 3, 1) := by decide +kernel
theorem dX1_addCluster_13 : decode cX1_addCluster 13 = .ok (.iadd, 1) := by decide +kernel
theorem dX1_addCluster_14 : decode cX1_addCluster 14 = .ok (.bipush 6, 2) := by decide +kernel
theorem dX1_addCluster_16 : decode cX1_addCluster 16 = .ok (.if_icmp .le 4, 3) := by decide +kernel
theorem dX1_addCluster_19 : decode cX1_addCluster 19 = .ok (.return_, 1) := by decide +kernel
theorem dX1_addCluster_20 : decode cX1_addCluster 20 = .ok (.aload_n 0, 1) := by decide +kernel
theorem dX1_addCluster_21 : decode cX1_addCluster 21 = .ok (.getfield 9, 3) := by decide +kernel
theorem dX1_addCluster_24 : decode cX1_addCluster 24 = .ok (.aload_n 0, 1) := by decide +kernel
theorem dX1_addCluster_25 : decode cX1_addCluster 25 = .ok (.getfield 51, 3) := by decide +kernel
theorem dX1_addCluster_28 : decode cX1_addCluster 28 = .ok (.lload_n 1, 1) := by decide +kernel
theorem dX1_addCluster_29 : decode cX1_addCluster 29 = .ok (.lastore, 1) := by decide +kernel
theorem dX1_addCluster_30 : decode cX1_addCluster 30 = .ok (.aload_n 0, 1) := by decide +kernel
theorem dX1_addCluster_31 : decode cX1_addCluster 31 = .ok (.getfield 15, 3) := by decide +kernel
theorem dX1_addCluster_34 : decode cX1_addCluster 34 = .ok (.aload_n 0, 1) := by decide +kernel
theorem dX1_addCluster_35 : decode cX1_addCluster 35 = .ok (.getfield 51, 3) := by decide +kernel
theorem dX1_addCluster_38 : decode cX1_addCluster 38 = .ok (.iload_n 3, 1) := by decide +kernel
theorem dX1_addCluster_39 : decode cX1_addCluster 39 = .ok (.iastore, 1) := by decide +kernel
theorem dX1_addCluster_40 : decode cX1_addCluster 40 = .ok (.aload_n 0, 1) := by decide +kernel
theorem dX1_addCluster_41 : decode cX1_addCluster 41 = .ok (.getfield 19, 3) := by decide +kernel
theorem dX1_addCluster_44 : decode cX1_addCluster 44 = .ok (.aload_n 0, 1) := by decide +kernel
theorem dX1_addCluster_45 : decode cX1_addCluster 45 = .ok (.getfield 51, 3) := by decide +kernel
theorem dX1_addCluster_48 : decode cX1_addCluster 48 = .ok (.iload 4, 2) := by decide +kernel
theorem dX1_addCluster_50 : decode cX1_addCluster 50 = .ok (.iastore, 1) := by decide +kernel
theorem dX1_addCluster_51 : decode cX1_addCluster 51 = .ok (.aload_n 0, 1) := by decide +kernel
theorem dX1_addCluster_52 : decode cX1_addCluster 52 = .ok (.getfield 22, 3) := by decide +kernel
theorem dX1_addCluster_55 : decode cX1_addCluster 55 = .ok (.aload_n 0, 1) := by decide +kernel
theorem dX1_addCluster_56 : decode cX1_addCluster 56 = .ok (.getfield 51, 3) := by decide +kernel
theorem dX1_addCluster_59 : decode cX1_addCluster 59 = .ok (.iload 5, 2) := by decide +kernel
theorem dX1_addCluster_61 : decode cX1_addCluster 61 = .ok (.iastore, 1) := by decide +kernel
theorem dX1_addCluster_62 : decode cX1_addCluster 62 = .ok (.aload_n 0, 1) := by decide +kernel
theorem dX1_addCluster_63 : decode cX1_addCluster 63 = .ok (.getfield 25, 3) := by decide +kernel
theorem dX1_addCluster_66 : decode cX1_addCluster 66 = .ok (.aload_n 0, 1) := by decide +kernel
theorem dX1_addCluster_67 : decode cX1_addCluster 67 = .ok (.getfield 51, 3) := by decide +kernel
theorem dX1_addCluster_70 : decode cX1_addCluster 70 = .ok (.iconst 0, 1) := by decide +kernel
theorem dX1_addCluster_71 : decode cX1_addCluster 71 = .ok (.iastore, 1) := by decide +kernel
theorem dX1_addCluster_72 : decode cX1_addCluster 72 = .ok (.iconst 0, 1) := by decide +kernel
theorem dX1_addCluster_73 : decode cX1_addCluster 73 = .ok (.istore 6, 2) := by decide +kernel
theorem dX1_addCluster_75 : decode cX1_addCluster 75 = .ok (.iload 6, 2) := by decide +kernel
theorem dX1_addCluster_77 : decode cX1_addCluster 77 = .ok (.iload_n 3, 1) := by decide +kernel
theorem dX1_addCluster_78 : decode cX1_addCluster 78 = .ok (.if_icmp .ge 25, 3) := by decide +kernel
theorem dX1_addCluster_81 : decode cX1_addCluster 81 = .ok (.aload_n 0, 1) := by decide +kernel
theorem dX1_addCluster_82 : decode cX1_addCluster 82 = .ok (.getfield 36, 3) := by decide +kernel
theorem dX1_addCluster_85 : decode cX1_addCluster 85 = .ok (.aload_n 0, 1) := by decide +kernel
theorem dX1_addCluster_86 : decode cX1_addCluster 86 = .ok (.getfield 58, 3) := by decide +kernel
theorem dX1_addCluster_89 : decode cX1_addCluster 89 = .ok (.iload 6, 2) := by decide +kernel
theorem dX1_addCluster_91 : decode cX1_addCluster 91 = .ok (.iadd, 1) := by decide +kernel
theorem dX1_addCluster_92 : decode cX1_addCluster 92 = .ok (.aload_n 0, 1) := by decide +kernel
theorem dX1_addCluster_93 : decode cX1_addCluster 93 = .ok (.getfield 51, 3) := by decide +kernel
theorem dX1_addCluster_96 : decode cX1_addCluster 96 = .ok (.iastore, 1) := by decide +kernel
theorem dX1_addCluster_97 : decode cX1_addCluster 97 = .ok (.iinc 6 1, 3) := by decide +kernel
theorem dX1_addCluster_100 : decode cX1_addCluster 100 = .ok (.goto (-25), 3) := by decide +kernel
theorem dX1_addCluster_103 : decode cX1_addCluster 103 = .ok (.aload_n 0, 1) := by decide +kernel
theorem dX1_addCluster_104 : decode cX1_addCluster 104 = .ok (.dup, 1) := by decide +kernel
theorem dX1_addCluster_105 : decode cX1_addCluster 105 = .ok (.getfield 58, 3) := by decide +kernel
theorem dX1_addCluster_108 : decode cX1_addCluster 108 = .ok (.iload_n 3, 1) := by decide +kernel
theorem dX1_addCluster_109 : decode cX1_addCluster 109 = .ok (.iadd, 1) := by decide +kernel
theorem dX1_addCluster_110 : decode cX1_addCluster 110 = .ok (.putfield 58, 3) := by decide +kernel
theorem dX1_addCluster_113 : decode cX1_addCluster 113 = .ok (.aload_n 0, 1) := by decide +kernel
theorem dX1_addCluster_114 : decode cX1_addCluster 114 = .ok (.dup, 1) := by decide +kernel
theorem dX1_addCluster_115 : decode cX1_addCluster 115 = .ok (.getfield 51, 3) := by decide +kernel
theorem dX1_addCluster_118 : decode cX1_addCluster 118 = .ok (.iconst 1, 1) := by decide +kernel
theorem dX1_addCluster_119 : decode cX1_addCluster 119 = .ok (.iadd, 1) := by decide +kernel
theorem dX1_addCluster_120 : decode cX1_addCluster 120 = .ok (.putfield 51, 3) := by decide +kernel
theorem dX1_addCluster_123 : decode cX1_addCluster 123 = .ok (.return_, 1) := by decide +kernel
theorem dX1_addPoint_0 : decode cX1_addPoint 0 = .ok (.aload_n 0, 1) := by decide +kernel
theorem dX1_addPoint_1 : decode cX1_addPoint 1 = .ok (.iload_n 1, 1) := by decide +kernel
theorem dX1_addPoint_2 : decode cX1_addPoint 2 = .ok (.invokevirtual 76, 3) := by decide +kernel
theorem dX1_addPoint_5 : decode cX1_addPoint 5 = .ok (.ifCond .eq 12, 3) := by decide +kernel
theorem dX1_addPoint_8 : decode cX1_addPoint 8 = .ok (.aload_n 0, 1) := by decide +kernel
theorem dX1_addPoint_9 : decode cX1_addPoint 9 = .ok (.getfield 25, 3) := by decide +kernel
theorem dX1_addPoint_12 : decode cX1_addPoint 12 = .ok (.iload_n 1, 1) := by decide +kernel
theorem dX1_addPoint_13 : decode cX1_addPoint 13 = .ok (.iaload, 1) := by decide +kernel
theorem dX1_addPoint_14 : decode cX1_addPoint 14 = .ok (.goto 4, 3) := by decide +kernel
theorem dX1_addPoint_17 : decode cX1_addPoint 17 = .ok (.iconst 5, 1) := by decide +kernel
theorem dX1_addPoint_18 : decode cX1_addPoint 18 = .ok (.istore 4, 2) := by decide +kernel
theorem dX1_addPoint_20 : decode cX1_addPoint 20 = .ok (.iload 4, 2) := by decide +kernel
theorem dX1_addPoint_22 : decode cX1_addPoint 22 = .ok (.iconst 5, 1) := by decide +kernel
theorem dX1_addPoint_23 : decode cX1_addPoint 23 = .ok (.if_icmp .lt 4, 3) := by decide +kernel
theorem dX1_addPoint_26 : decode cX1_addPoint 26 = .ok (.return_, 1) := by decide +kernel
theorem dX1_addPoint_27 : decode cX1_addPoint 27 = .ok (.aload_n 0, 1) := by decide +kernel
theorem dX1_addPoint_28 : decode cX1_addPoint 28 = .ok (.getfield 30, 3) := by decide +kernel
theorem dX1_addPoint_31 : decode cX1_addPoint 31 = .ok (.iload_n 1, 1) := by decide +kernel
theorem dX1_addPoint_32 : decode cX1_addPoint 32 = .ok (.aaload, 1) := by decide +kernel
theorem dX1_addPoint_33 : decode cX1_addPoint 33 = .ok (.iload 4, 2) := by decide +kernel
theorem dX1_addPoint_35 : decode cX1_addPoint 35 = .ok (.iload_n 2, 1) := by decide +kernel
theorem dX1_addPoint_36 : decode cX1_addPoint 36 = .ok (.iastore, 1) := by decide +kernel
theorem dX1_addPoint_37 : decode cX1_addPoint 37 = .ok (.aload_n 0, 1) := by decide +kernel
theorem dX1_addPoint_38 : decode cX1_addPoint 38 = .ok (.getfield 33, 3) := by decide +kernel
theorem dX1_addPoint_41 : decode cX1_addPoint 41 = .ok (.iload_n 1, 1) := by decide +kernel
theorem dX1_addPoint_42 : decode cX1_addPoint 42 = .ok (.aaload, 1) := by decide +kernel
theorem dX1_addPoint_43 : decode cX1_addPoint 43 = .ok (.iload 4, 2) := by decide +kernel
theorem dX1_addPoint_45 : decode cX1_addPoint 45 = .ok (.iload_n 3, 1) := by decide +kernel
theorem dX1_addPoint_46 : decode cX1_addPoint 46 = .ok (.iastore, 1) := by decide +kernel
theorem dX1_addPoint_47 : decode cX1_addPoint 47 = .ok (.aload_n 0, 1) := by decide +kernel
theorem dX1_addPoint_48 : decode cX1_addPoint 48 = .ok (.getfield 25, 3) := by decide +kernel
theorem dX1_addPoint_51 : decode cX1_addPoint 51 = .ok (.iload_n 1, 1) := by decide +kernel
theorem dX1_addPoint_52 : decode cX1_addPoint 52 = .ok (.iload 4, 2) := by decide +kernel
theorem dX1_addPoint_54 : decode cX1_addPoint 54 = .ok (.iconst 1, 1) := by decide +kernel
theorem dX1_addPoint_55 : decode cX1_addPoint 55 = .ok (.iadd, 1) := by decide +kernel
theorem dX1_addPoint_56 : decode cX1_addPoint 56 = .ok (.iastore, 1) := by decide +kernel
theorem dX1_addPoint_57 : decode cX1_addPoint 57 = .ok (.aload_n 0, 1) := by decide +kernel
theorem dX1_addPoint_58 : decode cX1_addPoint 58 = .ok (.aload_n 0, 1) := by decide +kernel
theorem dX1_addPoint_59 : decode cX1_addPoint 59 = .ok (.getfield 61, 3) := by decide +kernel
theorem dX1_addPoint_62 : decode cX1_addPoint 62 = .ok (.iload_n 2, 1) := by decide +kernel
theorem dX1_addPoint_63 : decode cX1_addPoint 63 = .ok (.invokestatic 80, 3) := by decide +kernel
theorem dX1_addPoint_66 : decode cX1_addPoint 66 = .ok (.putfield 61, 3) := by decide +kernel
theorem dX1_addPoint_69 : decode cX1_addPoint 69 = .ok (.return_, 1) := by decide +kernel
theorem dX1_addTask_0 : decode cX1_addTask 0 = .ok (.aload_n 0, 1) := by decide +kernel
theorem dX1_addTask_1 : decode cX1_addTask 1 = .ok (.getfield 55, 3) := by decide +kernel
theorem dX1_addTask_4 : decode cX1_addTask 4 = .ok (.iconst 4, 1) := by decide +kernel
theorem dX1_addTask_5 : decode cX1_addTask 5 = .ok (.if_icmp .lt 4, 3) := by decide +kernel
theorem dX1_addTask_8 : decode cX1_addTask 8 = .ok (.return_, 1) := by decide +kernel
theorem dX1_addTask_9 : decode cX1_addTask 9 = .ok (.aload_n 0, 1) := by decide +kernel
theorem dX1_addTask_10 : decode cX1_addTask 10 = .ok (.getfield 39, 3) := by decide +kernel
theorem dX1_addTask_13 : decode cX1_addTask 13 = .ok (.aload_n 0, 1) := by decide +kernel
theorem dX1_addTask_14 : decode cX1_addTask 14 = .ok (.getfield 55, 3) := by decide +kernel
theorem dX1_addTask_17 : decode cX1_addTask 17 = .ok (.lload_n 1, 1) := by decide +kernel
theorem dX1_addTask_18 : decode cX1_addTask 18 = .ok (.lastore, 1) := by decide +kernel
theorem dX1_addTask_19 : decode cX1_addTask 19 = .ok (.aload_n 0, 1) := by decide +kernel
theorem dX1_addTask_20 : decode cX1_addTask 20 = .ok (.getfield 42, 3) := by decide +kernel
theorem dX1_addTask_23 : decode cX1_addTask 23 = .ok (.aload_n 0, 1) := by decide +kernel
theorem dX1_addTask_24 : decode cX1_addTask 24 = .ok (.getfield 55, 3) := by decide +kernel
theorem dX1_addTask_27 : decode cX1_addTask 27 = .ok (.iload_n 3, 1) := by decide +kernel
theorem dX1_addTask_28 : decode cX1_addTask 28 = .ok (.iastore, 1) := by decide +kernel
theorem dX1_addTask_29 : decode cX1_addTask 29 = .ok (.aload_n 0, 1) := by decide +kernel
theorem dX1_addTask_30 : decode cX1_addTask 30 = .ok (.getfield 45, 3) := by decide +kernel
theorem dX1_addTask_33 : decode cX1_addTask 33 = .ok (.aload_n 0, 1) := by decide +kernel
theorem dX1_addTask_34 : decode cX1_addTask 34 = .ok (.getfield 55, 3) := by decide +kernel
theorem dX1_addTask_37 : decode cX1_addTask 37 = .ok (.iload 4, 2) := by decide +kernel
theorem dX1_addTask_39 : decode cX1_addTask 39 = .ok (.iastore, 1) := by decide +kernel
theorem dX1_addTask_40 : decode cX1_addTask 40 = .ok (.aload_n 0, 1) := by decide +kernel
theorem dX1_addTask_41 : decode cX1_addTask 41 = .ok (.dup, 1) := by decide +kernel
theorem dX1_addTask_42 : decode cX1_addTask 42 = .ok (.getfield 55, 3) := by decide +kernel
theorem dX1_addTask_45 : decode cX1_addTask 45 = .ok (.iconst 1, 1) := by decide +kernel
theorem dX1_addTask_46 : decode cX1_addTask 46 = .ok (.iadd, 1) := by decide +kernel
theorem dX1_addTask_47 : decode cX1_addTask 47 = .ok (.putfield 55, 3) := by decide +kernel
theorem dX1_addTask_50 : decode cX1_addTask 50 = .ok (.return_, 1) := by decide +kernel
theorem dX1_isTold_0 : decode cX1_isTold 0 = .ok (.aload_n 0, 1) := by decide +kernel
theorem dX1_isTold_1 : decode cX1_isTold 1 = .ok (.getfield 51, 3) := by decide +kernel
theorem dX1_isTold_4 : decode cX1_isTold 4 = .ok (.ifCond .le 7, 3) := by decide +kernel
theorem dX1_isTold_7 : decode cX1_isTold 7 = .ok (.iconst 1, 1) := by decide +kernel
theorem dX1_isTold_8 : decode cX1_isTold 8 = .ok (.goto 4, 3) := by decide +kernel
theorem dX1_isTold_11 : decode cX1_isTold 11 = .ok (.iconst 0, 1) := by decide +kernel
theorem dX1_isTold_12 : decode cX1_isTold 12 = .ok (.ireturn, 1) := by decide +kernel
theorem dX1_isWhole_0 : decode cX1_isWhole 0 = .ok (.iconst 0, 1) := by decide +kernel
theorem dX1_isWhole_1 : decode cX1_isWhole 1 = .ok (.istore_n 1, 1) := by decide +kernel
theorem dX1_isWhole_2 : decode cX1_isWhole 2 = .ok (.iload_n 1, 1) := by decide +kernel
theorem dX1_isWhole_3 : decode cX1_isWhole 3 = .ok (.aload_n 0, 1) := by decide +kernel
theorem dX1_isWhole_4 : decode cX1_isWhole 4 = .ok (.getfield 51, 3) := by decide +kernel
theorem dX1_isWhole_7 : decode cX1_isWhole 7 = .ok (.if_icmp .ge 20, 3) := by decide +kernel
theorem dX1_isWhole_10 : decode cX1_isWhole 10 = .ok (.aload_n 0, 1) := by decide +kernel
theorem dX1_isWhole_11 : decode cX1_isWhole 11 = .ok (.getfield 25, 3) := by decide +kernel
theorem dX1_isWhole_14 : decode cX1_isWhole 14 = .ok (.iload_n 1, 1) := by decide +kernel
theorem dX1_isWhole_15 : decode cX1_isWhole 15 = .ok (.iaload, 1) := by decide +kernel
theorem dX1_isWhole_16 : decode cX1_isWhole 16 = .ok (.ifCond .ne 5, 3) := by decide +kernel
theorem dX1_isWhole_19 : decode cX1_isWhole 19 = .ok (.iconst 0, 1) := by decide +kernel
theorem dX1_isWhole_20 : decode cX1_isWhole 20 = .ok (.ireturn, 1) := by decide +kernel
theorem dX1_isWhole_21 : decode cX1_isWhole 21 = .ok (.iinc 1 1, 3) := by decide +kernel
theorem dX1_isWhole_24 : decode cX1_isWhole 24 = .ok (.goto (-22), 3) := by decide +kernel
theorem dX1_isWhole_27 : decode cX1_isWhole 27 = .ok (.aload_n 0, 1) := by decide +kernel
theorem dX1_isWhole_28 : decode cX1_isWhole 28 = .ok (.getfield 51, 3) := by decide +kernel
theorem dX1_isWhole_31 : decode cX1_isWhole 31 = .ok (.ifCond .le 7, 3) := by decide +kernel
theorem dX1_isWhole_34 : decode cX1_isWhole 34 = .ok (.iconst 1, 1) := by decide +kernel
theorem dX1_isWhole_35 : decode cX1_isWhole 35 = .ok (.goto 4, 3) := by decide +kernel
theorem dX1_isWhole_38 : decode cX1_isWhole 38 = .ok (.iconst 0, 1) := by decide +kernel
theorem dX1_isWhole_39 : decode cX1_isWhole 39 = .ok (.ireturn, 1) := by decide +kernel
theorem dX1_hasCluster_0 : decode cX1_hasCluster 0 = .ok (.iload_n 1, 1) := by decide +kernel
theorem dX1_hasCluster_1 : decode cX1_hasCluster 1 = .ok (.ifCond .lt 15, 3) := by decide +kernel
theorem dX1_hasCluster_4 : decode cX1_hasCluster 4 = .ok (.iload_n 1, 1) := by decide +kernel
theorem dX1_hasCluster_5 : decode cX1_hasCluster 5 = .ok (.aload_n 0, 1) := by decide +kernel
theorem dX1_hasCluster_6 : decode cX1_hasCluster 6 = .ok (.getfield 51, 3) := by decide +kernel
theorem dX1_hasCluster_9 : decode cX1_hasCluster 9 = .ok (.if_icmp .ge 7, 3) := by decide +kernel
theorem dX1_hasCluster_12 : decode cX1_hasCluster 12 = .ok (.iconst 1, 1) := by decide +kernel
theorem dX1_hasCluster_13 : decode cX1_hasCluster 13 = .ok (.goto 4, 3) := by decide +kernel
theorem dX1_hasCluster_16 : decode cX1_hasCluster 16 = .ok (.iconst 0, 1) := by decide +kernel
theorem dX1_hasCluster_17 : decode cX1_hasCluster 17 = .ok (.ireturn, 1) := by decide +kernel
theorem dX1_hasPoint_0 : decode cX1_hasPoint 0 = .ok (.iload_n 1, 1) := by decide +kernel
theorem dX1_hasPoint_1 : decode cX1_hasPoint 1 = .ok (.ifCond .lt 29, 3) := by decide +kernel
theorem dX1_hasPoint_4 : decode cX1_hasPoint 4 = .ok (.iload_n 1, 1) := by decide +kernel
theorem dX1_hasPoint_5 : decode cX1_hasPoint 5 = .ok (.aload_n 0, 1) := by decide +kernel
theorem dX1_hasPoint_6 : decode cX1_hasPoint 6 = .ok (.getfield 51, 3) := by decide +kernel
theorem dX1_hasPoint_9 : decode cX1_hasPoint 9 = .ok (.if_icmp .ge 21, 3) := by decide +kernel
theorem dX1_hasPoint_12 : decode cX1_hasPoint 12 = .ok (.iload_n 2, 1) := by decide +kernel
theorem dX1_hasPoint_13 : decode cX1_hasPoint 13 = .ok (.ifCond .lt 17, 3) := by decide +kernel
theorem dX1_hasPoint_16 : decode cX1_hasPoint 16 = .ok (.iload_n 2, 1) := by decide +kernel
theorem dX1_hasPoint_17 : decode cX1_hasPoint 17 = .ok (.aload_n 0, 1) := by decide +kernel
theorem dX1_hasPoint_18 : decode cX1_hasPoint 18 = .ok (.getfield 25, 3) := by decide +kernel
theorem dX1_hasPoint_21 : decode cX1_hasPoint 21 = .ok (.iload_n 1, 1) := by decide +kernel
theorem dX1_hasPoint_22 : decode cX1_hasPoint 22 = .ok (.iaload, 1) := by decide +kernel
theorem dX1_hasPoint_23 : decode cX1_hasPoint 23 = .ok (.if_icmp .ge 7, 3) := by decide +kernel
theorem dX1_hasPoint_26 : decode cX1_hasPoint 26 = .ok (.iconst 1, 1) := by decide +kernel
theorem dX1_hasPoint_27 : decode cX1_hasPoint 27 = .ok (.goto 4, 3) := by decide +kernel
theorem dX1_hasPoint_30 : decode cX1_hasPoint 30 = .ok (.iconst 0, 1) := by decide +kernel
theorem dX1_hasPoint_31 : decode cX1_hasPoint 31 = .ok (.ireturn, 1) := by decide +kernel
theorem dX1_hasCore_0 : decode cX1_hasCore 0 = .ok (.iload_n 1, 1) := by decide +kernel
theorem dX1_hasCore_1 : decode cX1_hasCore 1 = .ok (.ifCond .lt 15, 3) := by decide +kernel
theorem dX1_hasCore_4 : decode cX1_hasCore 4 = .ok (.iload_n 1, 1) := by decide +kernel
theorem dX1_hasCore_5 : decode cX1_hasCore 5 = .ok (.aload_n 0, 1) := by decide +kernel
theorem dX1_hasCore_6 : decode cX1_hasCore 6 = .ok (.getfield 58, 3) := by decide +kernel
theorem dX1_hasCore_9 : decode cX1_hasCore 9 = .ok (.if_icmp .ge 7, 3) := by decide +kernel
theorem dX1_hasCore_12 : decode cX1_hasCore 12 = .ok (.iconst 1, 1) := by decide +kernel
theorem dX1_hasCore_13 : decode cX1_hasCore 13 = .ok (.goto 4, 3) := by decide +kernel
theorem dX1_hasCore_16 : decode cX1_hasCore 16 = .ok (.iconst 0, 1) := by decide +kernel
theorem dX1_hasCore_17 : decode cX1_hasCore 17 = .ok (.ireturn, 1) := by decide +kernel
theorem dX1_hasTask_0 : decode cX1_hasTask 0 = .ok (.iload_n 1, 1) := by decide +kernel
theorem dX1_hasTask_1 : decode cX1_hasTask 1 = .ok (.ifCond .lt 15, 3) := by decide +kernel
theorem dX1_hasTask_4 : decode cX1_hasTask 4 = .ok (.iload_n 1, 1) := by decide +kernel
theorem dX1_hasTask_5 : decode cX1_hasTask 5 = .ok (.aload_n 0, 1) := by decide +kernel
theorem dX1_hasTask_6 : decode cX1_hasTask 6 = .ok (.getfield 55, 3) := by decide +kernel
theorem dX1_hasTask_9 : decode cX1_hasTask 9 = .ok (.if_icmp .ge 7, 3) := by decide +kernel
theorem dX1_hasTask_12 : decode cX1_hasTask 12 = .ok (.iconst 1, 1) := by decide +kernel
theorem dX1_hasTask_13 : decode cX1_hasTask 13 = .ok (.goto 4, 3) := by decide +kernel
theorem dX1_hasTask_16 : decode cX1_hasTask 16 = .ok (.iconst 0, 1) := by decide +kernel
theorem dX1_hasTask_17 : decode cX1_hasTask 17 = .ok (.ireturn, 1) := by decide +kernel
theorem dX1_hasName_0 : decode cX1_hasName 0 = .ok (.iconst 0, 1) := by decide +kernel
theorem dX1_hasName_1 : decode cX1_hasName 1 = .ok (.istore_n 3, 1) := by decide +kernel
theorem dX1_hasName_2 : decode cX1_hasName 2 = .ok (.iload_n 3, 1) := by decide +kernel
theorem dX1_hasName_3 : decode cX1_hasName 3 = .ok (.aload_n 0, 1) := by decide +kernel
theorem dX1_hasName_4 : decode cX1_hasName 4 = .ok (.getfield 55, 3) := by decide +kernel
theorem dX1_hasName_7 : decode cX1_hasName 7 = .ok (.if_icmp .ge 22, 3) := by decide +kernel
theorem dX1_hasName_10 : decode cX1_hasName 10 = .ok (.aload_n 0, 1) := by decide +kernel
theorem dX1_hasName_11 : decode cX1_hasName 11 = .ok (.getfield 39, 3) := by decide +kernel
theorem dX1_hasName_14 : decode cX1_hasName 14 = .ok (.iload_n 3, 1) := by decide +kernel
theorem dX1_hasName_15 : decode cX1_hasName 15 = .ok (.laload, 1) := by decide +kernel
theorem dX1_hasName_16 : decode cX1_hasName 16 = .ok (.lload_n 1, 1) := by decide +kernel
theorem dX1_hasName_17 : decode cX1_hasName 17 = .ok (.lcmp, 1) := by decide +kernel
theorem dX1_hasName_18 : decode cX1_hasName 18 = .ok (.ifCond .ne 5, 3) := by decide +kernel
theorem dX1_hasName_21 : decode cX1_hasName 21 = .ok (.iconst 1, 1) := by decide +kernel
theorem dX1_hasName_22 : decode cX1_hasName 22 = .ok (.ireturn, 1) := by decide +kernel
theorem dX1_hasName_23 : decode cX1_hasName 23 = .ok (.iinc 3 1, 3) := by decide +kernel
theorem dX1_hasName_26 : decode cX1_hasName 26 = .ok (.goto (-24), 3) := by decide +kernel
theorem dX1_hasName_29 : decode cX1_hasName 29 = .ok (.aload_n 0, 1) := by decide +kernel
theorem dX1_hasName_30 : decode cX1_hasName 30 = .ok (.lload_n 1, 1) := by decide +kernel
theorem dX1_hasName_31 : decode cX1_hasName 31 = .ok (.invokevirtual 86, 3) := by decide +kernel
theorem dX1_hasName_34 : decode cX1_hasName 34 = .ok (.iconst (-1), 1) := by decide +kernel
theorem dX1_hasName_35 : decode cX1_hasName 35 = .ok (.if_icmp .eq 7, 3) := by decide +kernel
theorem dX1_hasName_38 : decode cX1_hasName 38 = .ok (.iconst 1, 1) := by decide +kernel
theorem dX1_hasName_39 : decode cX1_hasName 39 = .ok (.goto 4, 3) := by decide +kernel
theorem dX1_hasName_42 : decode cX1_hasName 42 = .ok (.iconst 0, 1) := by decide +kernel
theorem dX1_hasName_43 : decode cX1_hasName 43 = .ok (.ireturn, 1) := by decide +kernel
theorem dX1_clusterNamed_0 : decode cX1_clusterNamed 0 = .ok (.iconst 0, 1) := by decide +kernel
theorem dX1_clusterNamed_1 : decode cX1_clusterNamed 1 = .ok (.istore_n 3, 1) := by decide +kernel
theorem dX1_clusterNamed_2 : decode cX1_clusterNamed 2 = .ok (.iload_n 3, 1) := by decide +kernel
theorem dX1_clusterNamed_3 : decode cX1_clusterNamed 3 = .ok (.aload_n 0, 1) := by decide +kernel
theorem dX1_clusterNamed_4 : decode cX1_clusterNamed 4 = .ok (.getfield 51, 3) := by decide +kernel
theorem dX1_clusterNamed_7 : decode cX1_clusterNamed 7 = .ok (.if_icmp .ge 22, 3) := by decide +kernel
theorem dX1_clusterNamed_10 : decode cX1_clusterNamed 10 = .ok (.aload_n 0, 1) := by decide +kernel
theorem dX1_clusterNamed_11 : decode cX1_clusterNamed 11 = .ok (.getfield 9, 3) := by decide +kernel
theorem dX1_clusterNamed_14 : decode cX1_clusterNamed 14 = .ok (.iload_n 3, 1) := by decide +kernel
theorem dX1_clusterNamed_15 : decode cX1_clusterNamed 15 = .ok (.laload, 1) := by decide +kernel
theorem dX1_clusterNamed_16 : decode cX1_clusterNamed 16 = .ok (.lload_n 1, 1) := by decide +kernel
theorem dX1_clusterNamed_17 : decode cX1_clusterNamed 17 = .ok (.lcmp, 1) := by decide +kernel
theorem dX1_clusterNamed_18 : decode cX1_clusterNamed 18 = .ok (.ifCond .ne 5, 3) := by decide +kernel
theorem dX1_clusterNamed_21 : decode cX1_clusterNamed 21 = .ok (.iload_n 3, 1) := by decide +kernel
theorem dX1_clusterNamed_22 : decode cX1_clusterNamed 22 = .ok (.ireturn, 1) := by decide +kernel
theorem dX1_clusterNamed_23 : decode cX1_clusterNamed 23 = .ok (.iinc 3 1, 3) := by decide +kernel
theorem dX1_clusterNamed_26 : decode cX1_clusterNamed 26 = .ok (.goto (-24), 3) := by decide +kernel
theorem dX1_clusterNamed_29 : decode cX1_clusterNamed 29 = .ok (.iconst (-1), 1) := by decide +kernel
theorem dX1_clusterNamed_30 : decode cX1_clusterNamed 30 = .ok (.ireturn, 1) := by decide +kernel
theorem dX1_lastSpeed_0 : decode cX1_lastSpeed 0 = .ok (.aload_n 0, 1) := by decide +kernel
theorem dX1_lastSpeed_1 : decode cX1_lastSpeed 1 = .ok (.iload_n 1, 1) := by decide +kernel
theorem dX1_lastSpeed_2 : decode cX1_lastSpeed 2 = .ok (.invokevirtual 76, 3) := by decide +kernel
theorem dX1_lastSpeed_5 : decode cX1_lastSpeed 5 = .ok (.ifCond .eq 14, 3) := by decide +kernel
theorem dX1_lastSpeed_8 : decode cX1_lastSpeed 8 = .ok (.aload_n 0, 1) := by decide +kernel
theorem dX1_lastSpeed_9 : decode cX1_lastSpeed 9 = .ok (.getfield 25, 3) := by decide +kernel
theorem dX1_lastSpeed_12 : decode cX1_lastSpeed 12 = .ok (.iload_n 1, 1) := by decide +kernel
theorem dX1_lastSpeed_13 : decode cX1_lastSpeed 13 = .ok (.iaload, 1) := by decide +kernel
theorem dX1_lastSpeed_14 : decode cX1_lastSpeed 14 = .ok (.iconst 1, 1) := by decide +kernel
theorem dX1_lastSpeed_15 : decode cX1_lastSpeed 15 = .ok (.isub, 1) := by decide +kernel
theorem dX1_lastSpeed_16 : decode cX1_lastSpeed 16 = .ok (.goto 4, 3) := by decide +kernel
theorem dX1_lastSpeed_19 : decode cX1_lastSpeed 19 = .ok (.iconst (-1), 1) := by decide +kernel
theorem dX1_lastSpeed_20 : decode cX1_lastSpeed 20 = .ok (.istore_n 2, 1) := by decide +kernel
theorem dX1_lastSpeed_21 : decode cX1_lastSpeed 21 = .ok (.aload_n 0, 1) := by decide +kernel
theorem dX1_lastSpeed_22 : decode cX1_lastSpeed 22 = .ok (.iload_n 1, 1) := by decide +kernel
theorem dX1_lastSpeed_23 : decode cX1_lastSpeed 23 = .ok (.iload_n 2, 1) := by decide +kernel
theorem dX1_lastSpeed_24 : decode cX1_lastSpeed 24 = .ok (.invokevirtual 90, 3) := by decide +kernel
theorem dX1_lastSpeed_27 : decode cX1_lastSpeed 27 = .ok (.ifCond .eq 14, 3) := by decide +kernel
theorem dX1_lastSpeed_30 : decode cX1_lastSpeed 30 = .ok (.aload_n 0, 1) := by decide +kernel
theorem dX1_lastSpeed_31 : decode cX1_lastSpeed 31 = .ok (.getfield 30, 3) := by decide +kernel
theorem dX1_lastSpeed_34 : decode cX1_lastSpeed 34 = .ok (.iload_n 1, 1) := by decide +kernel
theorem dX1_lastSpeed_35 : decode cX1_lastSpeed 35 = .ok (.aaload, 1) := by decide +kernel
theorem dX1_lastSpeed_36 : decode cX1_lastSpeed 36 = .ok (.iload_n 2, 1) := by decide +kernel
theorem dX1_lastSpeed_37 : decode cX1_lastSpeed 37 = .ok (.iaload, 1) := by decide +kernel
theorem dX1_lastSpeed_38 : decode cX1_lastSpeed 38 = .ok (.goto 4, 3) := by decide +kernel
theorem dX1_lastSpeed_41 : decode cX1_lastSpeed 41 = .ok (.iconst 0, 1) := by decide +kernel
theorem dX1_lastSpeed_42 : decode cX1_lastSpeed 42 = .ok (.ireturn, 1) := by decide +kernel
theorem dX1_clusterFact_0 : decode cX1_clusterFact 0 = .ok (.aload_n 0, 1) := by decide +kernel
theorem dX1_clusterFact_1 : decode cX1_clusterFact 1 = .ok (.iload_n 1, 1) := by decide +kernel
theorem dX1_clusterFact_2 : decode cX1_clusterFact 2 = .ok (.invokevirtual 76, 3) := by decide +kernel
theorem dX1_clusterFact_5 : decode cX1_clusterFact 5 = .ok (.ifCond .ne 5, 3) := by decide +kernel
theorem dX1_clusterFact_8 : decode cX1_clusterFact 8 = .ok (.iconst (-1), 1) := by decide +kernel
theorem dX1_clusterFact_9 : decode cX1_clusterFact 9 = .ok (.ireturn, 1) := by decide +kernel
theorem dX1_clusterFact_10 : decode cX1_clusterFact 10 = .ok (.iload_n 2, 1) := by decide +kernel
theorem dX1_clusterFact_11 : decode cX1_clusterFact 11 = .ok (.tableswitch 46 0 2 #[25, 32, 39], 25) := by decide +kernel
theorem dX1_clusterFact_36 : decode cX1_clusterFact 36 = .ok (.aload_n 0, 1) := by decide +kernel
theorem dX1_clusterFact_37 : decode cX1_clusterFact 37 = .ok (.getfield 15, 3) := by decide +kernel
theorem dX1_clusterFact_40 : decode cX1_clusterFact 40 = .ok (.iload_n 1, 1) := by decide +kernel
theorem dX1_clusterFact_41 : decode cX1_clusterFact 41 = .ok (.iaload, 1) := by decide +kernel
theorem dX1_clusterFact_42 : decode cX1_clusterFact 42 = .ok (.ireturn, 1) := by decide +kernel
theorem dX1_clusterFact_43 : decode cX1_clusterFact 43 = .ok (.aload_n 0, 1) := by decide +kernel
theorem dX1_clusterFact_44 : decode cX1_clusterFact 44 = .ok (.getfield 19, 3) := by decide +kernel
theorem dX1_clusterFact_47 : decode cX1_clusterFact 47 = .ok (.iload_n 1, 1) := by decide +kernel
theorem dX1_clusterFact_48 : decode cX1_clusterFact 48 = .ok (.iaload, 1) := by decide +kernel
theorem dX1_clusterFact_49 : decode cX1_clusterFact 49 = .ok (.ireturn, 1) := by decide +kernel
theorem dX1_clusterFact_50 : decode cX1_clusterFact 50 = .ok (.aload_n 0, 1) := by decide +kernel
theorem dX1_clusterFact_51 : decode cX1_clusterFact 51 = .ok (.getfield 22, 3) := by decide +kernel
theorem dX1_clusterFact_54 : decode cX1_clusterFact 54 = .ok (.iload_n 1, 1) := by decide +kernel
theorem dX1_clusterFact_55 : decode cX1_clusterFact 55 = .ok (.iaload, 1) := by decide +kernel
theorem dX1_clusterFact_56 : decode cX1_clusterFact 56 = .ok (.ireturn, 1) := by decide +kernel
theorem dX1_clusterFact_57 : decode cX1_clusterFact 57 = .ok (.aload_n 0, 1) := by decide +kernel
theorem dX1_clusterFact_58 : decode cX1_clusterFact 58 = .ok (.getfield 25, 3) := by decide +kernel
theorem dX1_clusterFact_61 : decode cX1_clusterFact 61 = .ok (.iload_n 1, 1) := by decide +kernel
theorem dX1_clusterFact_62 : decode cX1_clusterFact 62 = .ok (.iaload, 1) := by decide +kernel
theorem dX1_clusterFact_63 : decode cX1_clusterFact 63 = .ok (.ireturn, 1) := by decide +kernel
theorem dX1_shareOf_0 : decode cX1_shareOf 0 = .ok (.aload_n 0, 1) := by decide +kernel
theorem dX1_shareOf_1 : decode cX1_shareOf 1 = .ok (.iload_n 1, 1) := by decide +kernel
theorem dX1_shareOf_2 : decode cX1_shareOf 2 = .ok (.invokevirtual 94, 3) := by decide +kernel
theorem dX1_shareOf_5 : decode cX1_shareOf 5 = .ok (.ifCond .eq 21, 3) := by decide +kernel
theorem dX1_shareOf_8 : decode cX1_shareOf 8 = .ok (.aload_n 0, 1) := by decide +kernel
theorem dX1_shareOf_9 : decode cX1_shareOf 9 = .ok (.getfield 42, 3) := by decide +kernel
theorem dX1_shareOf_12 : decode cX1_shareOf 12 = .ok (.iload_n 1, 1) := by decide +kernel
theorem dX1_shareOf_13 : decode cX1_shareOf 13 = .ok (.iaload, 1) := by decide +kernel
theorem dX1_shareOf_14 : decode cX1_shareOf 14 = .ok (.aload_n 0, 1) := by decide +kernel
theorem dX1_shareOf_15 : decode cX1_shareOf 15 = .ok (.getfield 45, 3) := by decide +kernel
theorem dX1_shareOf_18 : decode cX1_shareOf 18 = .ok (.iload_n 1, 1) := by decide +kernel
theorem dX1_shareOf_19 : decode cX1_shareOf 19 = .ok (.iaload, 1) := by decide +kernel
theorem dX1_shareOf_20 : decode cX1_shareOf 20 = .ok (.invokestatic 97, 3) := by decide +kernel
theorem dX1_shareOf_23 : decode cX1_shareOf 23 = .ok (.goto 4, 3) := by decide +kernel
theorem dX1_shareOf_26 : decode cX1_shareOf 26 = .ok (.iconst 0, 1) := by decide +kernel
theorem dX1_shareOf_27 : decode cX1_shareOf 27 = .ok (.ireturn, 1) := by decide +kernel
theorem dX1_firstPointFor_0 : decode cX1_firstPointFor 0 = .ok (.iload_n 1, 1) := by decide +kernel
theorem dX1_firstPointFor_1 : decode cX1_firstPointFor 1 = .ok (.ifCond .lt 20, 3) := by decide +kernel
theorem dX1_firstPointFor_4 : decode cX1_firstPointFor 4 = .ok (.iload_n 1, 1) := by decide +kernel
theorem dX1_firstPointFor_5 : decode cX1_firstPointFor 5 = .ok (.aload_n 0, 1) := by decide +kernel
theorem dX1_firstPointFor_6 : decode cX1_firstPointFor 6 = .ok (.getfield 51, 3) := by decide +kernel
theorem dX1_firstPointFor_9 : decode cX1_firstPointFor 9 = .ok (.if_icmp .ge 12, 3) := by decide +kernel
theorem dX1_firstPointFor_12 : decode cX1_firstPointFor 12 = .ok (.aload_n 0, 1) := by decide +kernel
theorem dX1_firstPointFor_13 : decode cX1_firstPointFor 13 = .ok (.getfield 25, 3) := by decide +kernel
theorem dX1_firstPointFor_16 : decode cX1_firstPointFor 16 = .ok (.iload_n 1, 1) := by decide +kernel
theorem dX1_firstPointFor_17 : decode cX1_firstPointFor 17 = .ok (.iaload, 1) := by decide +kernel
theorem dX1_firstPointFor_18 : decode cX1_firstPointFor 18 = .ok (.goto 4, 3) := by decide +kernel
theorem dX1_firstPointFor_21 : decode cX1_firstPointFor 21 = .ok (.iconst 0, 1) := by decide +kernel
theorem dX1_firstPointFor_22 : decode cX1_firstPointFor 22 = .ok (.istore_n 3, 1) := by decide +kernel
theorem dX1_firstPointFor_23 : decode cX1_firstPointFor 23 = .ok (.iconst 0, 1) := by decide +kernel
theorem dX1_firstPointFor_24 : decode cX1_firstPointFor 24 = .ok (.istore 4, 2) := by decide +kernel
theorem dX1_firstPointFor_26 : decode cX1_firstPointFor 26 = .ok (.iload 4, 2) := by decide +kernel
theorem dX1_firstPointFor_28 : decode cX1_firstPointFor 28 = .ok (.iload_n 3, 1) := by decide +kernel
theorem dX1_firstPointFor_29 : decode cX1_firstPointFor 29 = .ok (.if_icmp .ge 25, 3) := by decide +kernel
theorem dX1_firstPointFor_32 : decode cX1_firstPointFor 32 = .ok (.aload_n 0, 1) := by decide +kernel
theorem dX1_firstPointFor_33 : decode cX1_firstPointFor 33 = .ok (.getfield 30, 3) := by decide +kernel
theorem dX1_firstPointFor_36 : decode cX1_firstPointFor 36 = .ok (.iload_n 1, 1) := by decide +kernel
theorem dX1_firstPointFor_37 : decode cX1_firstPointFor 37 = .ok (.aaload, 1) := by decide +kernel
theorem dX1_firstPointFor_38 : decode cX1_firstPointFor 38 = .ok (.iload 4, 2) := by decide +kernel
theorem dX1_firstPointFor_40 : decode cX1_firstPointFor 40 = .ok (.iaload, 1) := by decide +kernel
theorem dX1_firstPointFor_41 : decode cX1_firstPointFor 41 = .ok (.iload_n 2, 1) := by decide +kernel
theorem dX1_firstPointFor_42 : decode cX1_firstPointFor 42 = .ok (.if_icmp .lt 6, 3) := by decide +kernel
theorem dX1_firstPointFor_45 : decode cX1_firstPointFor 45 = .ok (.iload 4, 2) := by decide +kernel
theorem dX1_firstPointFor_47 : decode cX1_firstPointFor 47 = .ok (.ireturn, 1) := by decide +kernel
theorem dX1_firstPointFor_48 : decode cX1_firstPointFor 48 = .ok (.iinc 4 1, 3) := by decide +kernel
theorem dX1_firstPointFor_51 : decode cX1_firstPointFor 51 = .ok (.goto (-25), 3) := by decide +kernel
theorem dX1_firstPointFor_54 : decode cX1_firstPointFor 54 = .ok (.iconst (-1), 1) := by decide +kernel
theorem dX1_firstPointFor_55 : decode cX1_firstPointFor 55 = .ok (.ireturn, 1) := by decide +kernel
theorem dX1_racingCost_0 : decode cX1_racingCost 0 = .ok (.aload_n 0, 1) := by decide +kernel
theorem dX1_racingCost_1 : decode cX1_racingCost 1 = .ok (.iload_n 1, 1) := by decide +kernel
theorem dX1_racingCost_2 : decode cX1_racingCost 2 = .ok (.invokevirtual 76, 3) := by decide +kernel
theorem dX1_racingCost_5 : decode cX1_racingCost 5 = .ok (.ifCond .eq 14, 3) := by decide +kernel
theorem dX1_racingCost_8 : decode cX1_racingCost 8 = .ok (.aload_n 0, 1) := by decide +kernel
theorem dX1_racingCost_9 : decode cX1_racingCost 9 = .ok (.getfield 25, 3) := by decide +kernel
theorem dX1_racingCost_12 : decode cX1_racingCost 12 = .ok (.iload_n 1, 1) := by decide +kernel
theorem dX1_racingCost_13 : decode cX1_racingCost 13 = .ok (.iaload, 1) := by decide +kernel
theorem dX1_racingCost_14 : decode cX1_racingCost 14 = .ok (.iconst 1, 1) := by decide +kernel
theorem dX1_racingCost_15 : decode cX1_racingCost 15 = .ok (.isub, 1) := by decide +kernel
theorem dX1_racingCost_16 : decode cX1_racingCost 16 = .ok (.goto 4, 3) := by decide +kernel
theorem dX1_racingCost_19 : decode cX1_racingCost 19 = .ok (.iconst (-1), 1) := by decide +kernel
theorem dX1_racingCost_20 : decode cX1_racingCost 20 = .ok (.istore 4, 2) := by decide +kernel
theorem dX1_racingCost_22 : decode cX1_racingCost 22 = .ok (.aload_n 0, 1) := by decide +kernel
theorem dX1_racingCost_23 : decode cX1_racingCost 23 = .ok (.iload_n 1, 1) := by decide +kernel
theorem dX1_racingCost_24 : decode cX1_racingCost 24 = .ok (.iload 4, 2) := by decide +kernel
theorem dX1_racingCost_26 : decode cX1_racingCost 26 = .ok (.invokevirtual 90, 3) := by decide +kernel
theorem dX1_racingCost_29 : decode cX1_racingCost 29 = .ok (.ifCond .ne 5, 3) := by decide +kernel
theorem dX1_racingCost_32 : decode cX1_racingCost 32 = .ok (.iconst (-1), 1) := by decide +kernel
theorem dX1_racingCost_33 : decode cX1_racingCost 33 = .ok (.ireturn, 1) := by decide +kernel
theorem dX1_racingCost_34 : decode cX1_racingCost 34 = .ok (.iload_n 2, 1) := by decide +kernel
theorem dX1_racingCost_35 : decode cX1_racingCost 35 = .ok (.aload_n 0, 1) := by decide +kernel
theorem dX1_racingCost_36 : decode cX1_racingCost 36 = .ok (.getfield 30, 3) := by decide +kernel
theorem dX1_racingCost_39 : decode cX1_racingCost 39 = .ok (.iload_n 1, 1) := by decide +kernel
theorem dX1_racingCost_40 : decode cX1_racingCost 40 = .ok (.aaload, 1) := by decide +kernel
theorem dX1_racingCost_41 : decode cX1_racingCost 41 = .ok (.iload 4, 2) := by decide +kernel
theorem dX1_racingCost_43 : decode cX1_racingCost 43 = .ok (.iaload, 1) := by decide +kernel
theorem dX1_racingCost_44 : decode cX1_racingCost 44 = .ok (.invokestatic 97, 3) := by decide +kernel
theorem dX1_racingCost_47 : decode cX1_racingCost 47 = .ok (.istore 5, 2) := by decide +kernel
theorem dX1_racingCost_49 : decode cX1_racingCost 49 = .ok (.iload 5, 2) := by decide +kernel
theorem dX1_racingCost_51 : decode cX1_racingCost 51 = .ok (.iload_n 3, 1) := by decide +kernel
theorem dX1_racingCost_52 : decode cX1_racingCost 52 = .ok (.if_icmp .le 5, 3) := by decide +kernel
theorem dX1_racingCost_55 : decode cX1_racingCost 55 = .ok (.iconst (-1), 1) := by decide +kernel
theorem dX1_racingCost_56 : decode cX1_racingCost 56 = .ok (.ireturn, 1) := by decide +kernel
theorem dX1_racingCost_57 : decode cX1_racingCost 57 = .ok (.aload_n 0, 1) := by decide +kernel
theorem dX1_racingCost_58 : decode cX1_racingCost 58 = .ok (.getfield 33, 3) := by decide +kernel
theorem dX1_racingCost_61 : decode cX1_racingCost 61 = .ok (.iload_n 1, 1) := by decide +kernel
theorem dX1_racingCost_62 : decode cX1_racingCost 62 = .ok (.aaload, 1) := by decide +kernel
theorem dX1_racingCost_63 : decode cX1_racingCost 63 = .ok (.iload 4, 2) := by decide +kernel
theorem dX1_racingCost_65 : decode cX1_racingCost 65 = .ok (.iaload, 1) := by decide +kernel
theorem dX1_racingCost_66 : decode cX1_racingCost 66 = .ok (.iload_n 2, 1) := by decide +kernel
theorem dX1_racingCost_67 : decode cX1_racingCost 67 = .ok (.imul, 1) := by decide +kernel
theorem dX1_racingCost_68 : decode cX1_racingCost 68 = .ok (.aload_n 0, 1) := by decide +kernel
theorem dX1_racingCost_69 : decode cX1_racingCost 69 = .ok (.getfield 19, 3) := by decide +kernel
theorem dX1_racingCost_72 : decode cX1_racingCost 72 = .ok (.iload_n 1, 1) := by decide +kernel
theorem dX1_racingCost_73 : decode cX1_racingCost 73 = .ok (.iaload, 1) := by decide +kernel
theorem dX1_racingCost_74 : decode cX1_racingCost 74 = .ok (.iload_n 3, 1) := by decide +kernel
theorem dX1_racingCost_75 : decode cX1_racingCost 75 = .ok (.iload 5, 2) := by decide +kernel
theorem dX1_racingCost_77 : decode cX1_racingCost 77 = .ok (.aload_n 0, 1) := by decide +kernel
theorem dX1_racingCost_78 : decode cX1_racingCost 78 = .ok (.getfield 48, 3) := by decide +kernel
theorem dX1_racingCost_81 : decode cX1_racingCost 81 = .ok (.iconst 2, 1) := by decide +kernel
theorem dX1_racingCost_82 : decode cX1_racingCost 82 = .ok (.iaload, 1) := by decide +kernel
theorem dX1_racingCost_83 : decode cX1_racingCost 83 = .ok (.iadd, 1) := by decide +kernel
theorem dX1_racingCost_84 : decode cX1_racingCost 84 = .ok (.invokestatic 100, 3) := by decide +kernel
theorem dX1_racingCost_87 : decode cX1_racingCost 87 = .ok (.imul, 1) := by decide +kernel
theorem dX1_racingCost_88 : decode cX1_racingCost 88 = .ok (.iadd, 1) := by decide +kernel
theorem dX1_racingCost_89 : decode cX1_racingCost 89 = .ok (.ireturn, 1) := by decide +kernel
theorem dX1_slowCost_0 : decode cX1_slowCost 0 = .ok (.aload_n 0, 1) := by decide +kernel
theorem dX1_slowCost_1 : decode cX1_slowCost 1 = .ok (.iload_n 1, 1) := by decide +kernel
theorem dX1_slowCost_2 : decode cX1_slowCost 2 = .ok (.iload_n 2, 1) := by decide +kernel
theorem dX1_slowCost_3 : decode cX1_slowCost 3 = .ok (.iload_n 3, 1) := by decide +kernel
theorem dX1_slowCost_4 : decode cX1_slowCost 4 = .ok (.invokestatic 97, 3) := by decide +kernel
theorem dX1_slowCost_7 : decode cX1_slowCost 7 = .ok (.invokevirtual 103, 3) := by decide +kernel
theorem dX1_slowCost_10 : decode cX1_slowCost 10 = .ok (.istore 4, 2) := by decide +kernel
theorem dX1_slowCost_12 : decode cX1_slowCost 12 = .ok (.iload 4, 2) := by decide +kernel
theorem dX1_slowCost_14 : decode cX1_slowCost 14 = .ok (.iconst (-1), 1) := by decide +kernel
theorem dX1_slowCost_15 : decode cX1_slowCost 15 = .ok (.if_icmp .ne 7, 3) := by decide +kernel
theorem dX1_slowCost_18 : decode cX1_slowCost 18 = .ok (.iconst (-1), 1) := by decide +kernel
theorem dX1_slowCost_19 : decode cX1_slowCost 19 = .ok (.goto 23, 3) := by decide +kernel
theorem dX1_slowCost_22 : decode cX1_slowCost 22 = .ok (.aload_n 0, 1) := by decide +kernel
theorem dX1_slowCost_23 : decode cX1_slowCost 23 = .ok (.getfield 33, 3) := by decide +kernel
theorem dX1_slowCost_26 : decode cX1_slowCost 26 = .ok (.iload_n 1, 1) := by decide +kernel
theorem dX1_slowCost_27 : decode cX1_slowCost 27 = .ok (.aaload, 1) := by decide +kernel
theorem dX1_slowCost_28 : decode cX1_slowCost 28 = .ok (.iload 4, 2) := by decide +kernel
theorem dX1_slowCost_30 : decode cX1_slowCost 30 = .ok (.iaload, 1) := by decide +kernel
theorem dX1_slowCost_31 : decode cX1_slowCost 31 = .ok (.iload_n 2, 1) := by decide +kernel
theorem dX1_slowCost_32 : decode cX1_slowCost 32 = .ok (.imul, 1) := by decide +kernel
theorem dX1_slowCost_33 : decode cX1_slowCost 33 = .ok (.aload_n 0, 1) := by decide +kernel
theorem dX1_slowCost_34 : decode cX1_slowCost 34 = .ok (.getfield 19, 3) := by decide +kernel
theorem dX1_slowCost_37 : decode cX1_slowCost 37 = .ok (.iload_n 1, 1) := by decide +kernel
theorem dX1_slowCost_38 : decode cX1_slowCost 38 = .ok (.iaload, 1) := by decide +kernel
theorem dX1_slowCost_39 : decode cX1_slowCost 39 = .ok (.iload_n 3, 1) := by decide +kernel
theorem dX1_slowCost_40 : decode cX1_slowCost 40 = .ok (.imul, 1) := by decide +kernel
theorem dX1_slowCost_41 : decode cX1_slowCost 41 = .ok (.iadd, 1) := by decide +kernel
theorem dX1_slowCost_42 : decode cX1_slowCost 42 = .ok (.ireturn, 1) := by decide +kernel
theorem dX2_init_0 : decode cX2_init 0 = .ok (.aload_n 0, 1) := by decide +kernel
theorem dX2_init_1 : decode cX2_init 1 = .ok (.invokespecial 3, 3) := by decide +kernel
theorem dX2_init_4 : decode cX2_init 4 = .ok (.aload_n 0, 1) := by decide +kernel
theorem dX2_init_5 : decode cX2_init 5 = .ok (.iconst 4, 1) := by decide +kernel
theorem dX2_init_6 : decode cX2_init 6 = .ok (.newarray .int, 2) := by decide +kernel
theorem dX2_init_8 : decode cX2_init 8 = .ok (.putfield 9, 3) := by decide +kernel
theorem dX2_init_11 : decode cX2_init 11 = .ok (.return_, 1) := by decide +kernel
theorem dX2_passMany_0 : decode cX2_passMany 0 = .ok (.aload_n 2, 1) := by decide +kernel
theorem dX2_passMany_1 : decode cX2_passMany 1 = .ok (.getfield 15, 3) := by decide +kernel
theorem dX2_passMany_4 : decode cX2_passMany 4 = .ok (.istore 4, 2) := by decide +kernel
theorem dX2_passMany_6 : decode cX2_passMany 6 = .ok (.iconst 0, 1) := by decide +kernel
theorem dX2_passMany_7 : decode cX2_passMany 7 = .ok (.istore 5, 2) := by decide +kernel
theorem dX2_passMany_9 : decode cX2_passMany 9 = .ok (.iload 5, 2) := by decide +kernel
theorem dX2_passMany_11 : decode cX2_passMany 11 = .ok (.iload_n 3, 1) := by decide +kernel
theorem dX2_passMany_12 : decode cX2_passMany 12 = .ok (.if_icmp .ge 140, 3) := by decide +kernel
theorem dX2_passMany_15 : decode cX2_passMany 15 = .ok (.aload_n 0, 1) := by decide +kernel
theorem dX2_passMany_16 : decode cX2_passMany 16 = .ok (.aload_n 1, 1) := by decide +kernel
theorem dX2_passMany_17 : decode cX2_passMany 17 = .ok (.aload_n 2, 1) := by decide +kernel
theorem dX2_passMany_18 : decode cX2_passMany 18 = .ok (.invokevirtual 21, 3) := by decide +kernel
theorem dX2_passMany_21 : decode cX2_passMany 21 = .ok (.aload_n 0, 1) := by decide +kernel
theorem dX2_passMany_22 : decode cX2_passMany 22 = .ok (.aload_n 1, 1) := by decide +kernel
theorem dX2_passMany_23 : decode cX2_passMany 23 = .ok (.aload_n 2, 1) := by decide +kernel
theorem dX2_passMany_24 : decode cX2_passMany 24 = .ok (.invokevirtual 25, 3) := by decide +kernel
theorem dX2_passMany_27 : decode cX2_passMany 27 = .ok (.istore 6, 2) := by decide +kernel
theorem dX2_passMany_29 : decode cX2_passMany 29 = .ok (.iconst 0, 1) := by decide +kernel
theorem dX2_passMany_30 : decode cX2_passMany 30 = .ok (.istore 7, 2) := by decide +kernel
theorem dX2_passMany_32 : decode cX2_passMany 32 = .ok (.iload 7, 2) := by decide +kernel
theorem dX2_passMany_34 : decode cX2_passMany 34 = .ok (.aload_n 1, 1) := by decide +kernel
theorem dX2_passMany_35 : decode cX2_passMany 35 = .ok (.getfield 29, 3) := by decide +kernel
theorem dX2_passMany_38 : decode cX2_passMany 38 = .ok (.if_icmp .ge 25, 3) := by decide +kernel
theorem dX2_passMany_41 : decode cX2_passMany 41 = .ok (.aload_n 0, 1) := by decide +kernel
theorem dX2_passMany_42 : decode cX2_passMany 42 = .ok (.aload_n 1, 1) := by decide +kernel
theorem dX2_passMany_43 : decode cX2_passMany 43 = .ok (.aload_n 2, 1) := by decide +kernel
theorem dX2_passMany_44 : decode cX2_passMany 44 = .ok (.iload 7, 2) := by decide +kernel
theorem dX2_passMany_46 : decode cX2_passMany 46 = .ok (.aload_n 0, 1) := by decide +kernel
theorem dX2_passMany_47 : decode cX2_passMany 47 = .ok (.aload_n 1, 1) := by decide +kernel
theorem dX2_passMany_48 : decode cX2_passMany 48 = .ok (.aload_n 2, 1) := by decide +kernel
theorem dX2_passMany_49 : decode cX2_passMany 49 = .ok (.iload 7, 2) := by decide +kernel
theorem dX2_passMany_51 : decode cX2_passMany 51 = .ok (.invokevirtual 34, 3) := by decide +kernel
theorem dX2_passMany_54 : decode cX2_passMany 54 = .ok (.invokevirtual 38, 3) := by decide +kernel
theorem dX2_passMany_57 : decode cX2_passMany 57 = .ok (.iinc 7 1, 3) := by decide +kernel
theorem dX2_passMany_60 : decode cX2_passMany 60 = .ok (.goto (-28), 3) := by decide +kernel
theorem dX2_passMany_63 : decode cX2_passMany 63 = .ok (.iconst 0, 1) := by decide +kernel
theorem dX2_passMany_64 : decode cX2_passMany 64 = .ok (.istore 7, 2) := by decide +kernel
theorem dX2_passMany_66 : decode cX2_passMany 66 = .ok (.iload 7, 2) := by decide +kernel
theorem dX2_passMany_68 : decode cX2_passMany 68 = .ok (.aload_n 1, 1) := by decide +kernel
theorem dX2_passMany_69 : decode cX2_passMany 69 = .ok (.getfield 42, 3) := by decide +kernel
theorem dX2_passMany_72 : decode cX2_passMany 72 = .ok (.if_icmp .ge 22, 3) := by decide +kernel
theorem dX2_passMany_75 : decode cX2_passMany 75 = .ok (.iload 6, 2) := by decide +kernel
theorem dX2_passMany_77 : decode cX2_passMany 77 = .ok (.aload_n 0, 1) := by decide +kernel
theorem dX2_passMany_78 : decode cX2_passMany 78 = .ok (.aload_n 1, 1) := by decide +kernel
theorem dX2_passMany_79 : decode cX2_passMany 79 = .ok (.aload_n 2, 1) := by decide +kernel
theorem dX2_passMany_80 : decode cX2_passMany 80 = .ok (.iload 7, 2) := by decide +kernel
theorem dX2_passMany_82 : decode cX2_passMany 82 = .ok (.invokevirtual 45, 3) := by decide +kernel
theorem dX2_passMany_85 : decode cX2_passMany 85 = .ok (.iadd, 1) := by decide +kernel
theorem dX2_passMany_86 : decode cX2_passMany 86 = .ok (.istore 6, 2) := by decide +kernel
theorem dX2_passMany_88 : decode cX2_passMany 88 = .ok (.iinc 7 1, 3) := by decide +kernel
theorem dX2_passMany_91 : decode cX2_passMany 91 = .ok (.goto (-25), 3) := by decide +kernel
theorem dX2_passMany_94 : decode cX2_passMany 94 = .ok (.aload_n 0, 1) := by decide +kernel
theorem dX2_passMany_95 : decode cX2_passMany 95 = .ok (.aload_n 1, 1) := by decide +kernel
theorem dX2_passMany_96 : decode cX2_passMany 96 = .ok (.aload_n 2, 1) := by decide +kernel
theorem dX2_passMany_97 : decode cX2_passMany 97 = .ok (.invokevirtual 48, 3) := by decide +kernel
theorem dX2_passMany_100 : decode cX2_passMany 100 = .ok (.aload_n 2, 1) := by decide +kernel
theorem dX2_passMany_101 : decode cX2_passMany 101 = .ok (.dup, 1) := by decide +kernel
theorem dX2_passMany_102 : decode cX2_passMany 102 = .ok (.getfield 51, 3) := by decide +kernel
theorem dX2_passMany_105 : decode cX2_passMany 105 = .ok (.iload 6, 2) := by decide +kernel
theorem dX2_passMany_107 : decode cX2_passMany 107 = .ok (.aload_n 2, 1) := by decide +kernel
theorem dX2_passMany_108 : decode cX2_passMany 108 = .ok (.getfield 51, 3) := by decide +kernel
theorem dX2_passMany_111 : decode cX2_passMany 111 = .ok (.aload_n 1, 1) := by decide +kernel
theorem dX2_passMany_112 : decode cX2_passMany 112 = .ok (.getfield 54, 3) := by decide +kernel
theorem dX2_passMany_115 : decode cX2_passMany 115 = .ok (.iconst 5, 1) := by decide +kernel
theorem dX2_passMany_116 : decode cX2_passMany 116 = .ok (.iaload, 1) := by decide +kernel
theorem dX2_passMany_117 : decode cX2_passMany 117 = .ok (.invokestatic 57, 3) := by decide +kernel
theorem dX2_passMany_120 : decode cX2_passMany 120 = .ok (.isub, 1) := by decide +kernel
theorem dX2_passMany_121 : decode cX2_passMany 121 = .ok (.iadd, 1) := by decide +kernel
theorem dX2_passMany_122 : decode cX2_passMany 122 = .ok (.putfield 51, 3) := by decide +kernel
theorem dX2_passMany_125 : decode cX2_passMany 125 = .ok (.aload_n 2, 1) := by decide +kernel
theorem dX2_passMany_126 : decode cX2_passMany 126 = .ok (.dup, 1) := by decide +kernel
theorem dX2_passMany_127 : decode cX2_passMany 127 = .ok (.getfield 15, 3) := by decide +kernel
theorem dX2_passMany_130 : decode cX2_passMany 130 = .ok (.iload 6, 2) := by decide +kernel
theorem dX2_passMany_132 : decode cX2_passMany 132 = .ok (.iadd, 1) := by decide +kernel
theorem dX2_passMany_133 : decode cX2_passMany 133 = .ok (.putfield 15, 3) := by decide +kernel
theorem dX2_passMany_136 : decode cX2_passMany 136 = .ok (.aload_n 2, 1) := by decide +kernel
theorem dX2_passMany_137 : decode cX2_passMany 137 = .ok (.dup, 1) := by decide +kernel
theorem dX2_passMany_138 : decode cX2_passMany 138 = .ok (.getfield 61, 3) := by decide +kernel
theorem dX2_passMany_141 : decode cX2_passMany 141 = .ok (.iconst 1, 1) := by decide +kernel
theorem dX2_passMany_142 : decode cX2_passMany 142 = .ok (.iadd, 1) := by decide +kernel
theorem dX2_passMany_143 : decode cX2_passMany 143 = .ok (.putfield 61, 3) := by decide +kernel
theorem dX2_passMany_146 : decode cX2_passMany 146 = .ok (.iinc 5 1, 3) := by decide +kernel
theorem dX2_passMany_149 : decode cX2_passMany 149 = .ok (.goto (-140), 3) := by decide +kernel
theorem dX2_passMany_152 : decode cX2_passMany 152 = .ok (.aload_n 2, 1) := by decide +kernel
theorem dX2_passMany_153 : decode cX2_passMany 153 = .ok (.getfield 15, 3) := by decide +kernel
theorem dX2_passMany_156 : decode cX2_passMany 156 = .ok (.iload 4, 2) := by decide +kernel
theorem dX2_passMany_158 : decode cX2_passMany 158 = .ok (.isub, 1) := by decide +kernel
theorem dX2_passMany_159 : decode cX2_passMany 159 = .ok (.ireturn, 1) := by decide +kernel
theorem dX2_needOf_0 : decode cX2_needOf 0 = .ok (.iconst 0, 1) := by decide +kernel
theorem dX2_needOf_1 : decode cX2_needOf 1 = .ok (.istore 4, 2) := by decide +kernel
theorem dX2_needOf_3 : decode cX2_needOf 3 = .ok (.iconst 0, 1) := by decide +kernel
theorem dX2_needOf_4 : decode cX2_needOf 4 = .ok (.istore 5, 2) := by decide +kernel
theorem dX2_needOf_6 : decode cX2_needOf 6 = .ok (.iload 5, 2) := by decide +kernel
theorem dX2_needOf_8 : decode cX2_needOf 8 = .ok (.aload_n 1, 1) := by decide +kernel
theorem dX2_needOf_9 : decode cX2_needOf 9 = .ok (.getfield 42, 3) := by decide +kernel
theorem dX2_needOf_12 : decode cX2_needOf 12 = .ok (.if_icmp .ge 83, 3) := by decide +kernel
theorem dX2_needOf_15 : decode cX2_needOf 15 = .ok (.iconst 0, 1) := by decide +kernel
theorem dX2_needOf_16 : decode cX2_needOf 16 = .ok (.istore 6, 2) := by decide +kernel
theorem dX2_needOf_18 : decode cX2_needOf 18 = .ok (.iconst 0, 1) := by decide +kernel
theorem dX2_needOf_19 : decode cX2_needOf 19 = .ok (.istore 7, 2) := by decide +kernel
theorem dX2_needOf_21 : decode cX2_needOf 21 = .ok (.iload 7, 2) := by decide +kernel
theorem dX2_needOf_23 : decode cX2_needOf 23 = .ok (.aload_n 1, 1) := by decide +kernel
theorem dX2_needOf_24 : decode cX2_needOf 24 = .ok (.getfield 64, 3) := by decide +kernel
theorem dX2_needOf_27 : decode cX2_needOf 27 = .ok (.if_icmp .ge 37, 3) := by decide +kernel
theorem dX2_needOf_30 : decode cX2_needOf 30 = .ok (.iload 6, 2) := by decide +kernel
theorem dX2_needOf_32 : decode cX2_needOf 32 = .ok (.aload_n 2, 1) := by decide +kernel
theorem dX2_needOf_33 : decode cX2_needOf 33 = .ok (.getfield 67, 3) := by decide +kernel
theorem dX2_needOf_36 : decode cX2_needOf 36 = .ok (.iload 7, 2) := by decide +kernel
theorem dX2_needOf_38 : decode cX2_needOf 38 = .ok (.iaload, 1) := by decide +kernel
theorem dX2_needOf_39 : decode cX2_needOf 39 = .ok (.iload 5, 2) := by decide +kernel
theorem dX2_needOf_41 : decode cX2_needOf 41 = .ok (.if_icmp .ne 13, 3) := by decide +kernel
theorem dX2_needOf_44 : decode cX2_needOf 44 = .ok (.aload_n 2, 1) := by decide +kernel
theorem dX2_needOf_45 : decode cX2_needOf 45 = .ok (.getfield 70, 3) := by decide +kernel
theorem dX2_needOf_48 : decode cX2_needOf 48 = .ok (.iload 7, 2) := by decide +kernel
theorem dX2_needOf_50 : decode cX2_needOf 50 = .ok (.iaload, 1) := by decide +kernel
theorem dX2_needOf_51 : decode cX2_needOf 51 = .ok (.goto 4, 3) := by decide +kernel
theorem dX2_needOf_54 : decode cX2_needOf 54 = .ok (.iconst 0, 1) := by decide +kernel
theorem dX2_needOf_55 : decode cX2_needOf 55 = .ok (.iadd, 1) := by decide +kernel
theorem dX2_needOf_56 : decode cX2_needOf 56 = .ok (.istore 6, 2) := by decide +kernel
theorem dX2_needOf_58 : decode cX2_needOf 58 = .ok (.iinc 7 1, 3) := by decide +kernel
theorem dX2_needOf_61 : decode cX2_needOf 61 = .ok (.goto (-40), 3) := by decide +kernel
theorem dX2_needOf_64 : decode cX2_needOf 64 = .ok (.aload_n 1, 1) := by decide +kernel
theorem dX2_needOf_65 : decode cX2_needOf 65 = .ok (.getfield 73, 3) := by decide +kernel
theorem dX2_needOf_68 : decode cX2_needOf 68 = .ok (.iload 5, 2) := by decide +kernel
theorem dX2_needOf_70 : decode cX2_needOf 70 = .ok (.iaload, 1) := by decide +kernel
theorem dX2_needOf_71 : decode cX2_needOf 71 = .ok (.iload_n 3, 1) := by decide +kernel
theorem dX2_needOf_72 : decode cX2_needOf 72 = .ok (.if_icmp .ne 13, 3) := by decide +kernel
theorem dX2_needOf_75 : decode cX2_needOf 75 = .ok (.iload 4, 2) := by decide +kernel
theorem dX2_needOf_77 : decode cX2_needOf 77 = .ok (.iload 6, 2) := by decide +kernel
theorem dX2_needOf_79 : decode cX2_needOf 79 = .ok (.invokestatic 76, 3) := by decide +kernel
theorem dX2_needOf_82 : decode cX2_needOf 82 = .ok (.goto 5, 3) := by decide +kernel
theorem dX2_needOf_85 : decode cX2_needOf 85 = .ok (.iload 4, 2) := by decide +kernel
theorem dX2_needOf_87 : decode cX2_needOf 87 = .ok (.istore 4, 2) := by decide +kernel
theorem dX2_needOf_89 : decode cX2_needOf 89 = .ok (.iinc 5 1, 3) := by decide +kernel
theorem dX2_needOf_92 : decode cX2_needOf 92 = .ok (.goto (-86), 3) := by decide +kernel
theorem dX2_needOf_95 : decode cX2_needOf 95 = .ok (.iload 4, 2) := by decide +kernel
theorem dX2_needOf_97 : decode cX2_needOf 97 = .ok (.aload_n 1, 1) := by decide +kernel
theorem dX2_needOf_98 : decode cX2_needOf 98 = .ok (.getfield 81, 3) := by decide +kernel
theorem dX2_needOf_101 : decode cX2_needOf 101 = .ok (.imul, 1) := by decide +kernel
theorem dX2_needOf_102 : decode cX2_needOf 102 = .ok (.bipush 100, 2) := by decide +kernel
theorem dX2_needOf_104 : decode cX2_needOf 104 = .ok (.aload_n 1, 1) := by decide +kernel
theorem dX2_needOf_105 : decode cX2_needOf 105 = .ok (.getfield 54, 3) := by decide +kernel
theorem dX2_needOf_108 : decode cX2_needOf 108 = .ok (.iconst 0, 1) := by decide +kernel
theorem dX2_needOf_109 : decode cX2_needOf 109 = .ok (.iaload, 1) := by decide +kernel
theorem dX2_needOf_110 : decode cX2_needOf 110 = .ok (.iadd, 1) := by decide +kernel
theorem dX2_needOf_111 : decode cX2_needOf 111 = .ok (.imul, 1) := by decide +kernel
theorem dX2_needOf_112 : decode cX2_needOf 112 = .ok (.ldc 84, 2) := by decide +kernel
theorem dX2_needOf_114 : decode cX2_needOf 114 = .ok (.invokestatic 85, 3) := by decide +kernel
theorem dX2_needOf_117 : decode cX2_needOf 117 = .ok (.ireturn, 1) := by decide +kernel
theorem dX2_wantOf_0 : decode cX2_wantOf 0 = .ok (.aload_n 1, 1) := by decide +kernel
theorem dX2_wantOf_1 : decode cX2_wantOf 1 = .ok (.iload_n 3, 1) := by decide +kernel
theorem dX2_wantOf_2 : decode cX2_wantOf 2 = .ok (.invokevirtual 88, 3) := by decide +kernel
theorem dX2_wantOf_5 : decode cX2_wantOf 5 = .ok (.ifCond .ne 5, 3) := by decide +kernel
theorem dX2_wantOf_8 : decode cX2_wantOf 8 = .ok (.iconst (-1), 1) := by decide +kernel
theorem dX2_wantOf_9 : decode cX2_wantOf 9 = .ok (.ireturn, 1) := by decide +kernel
theorem dX2_wantOf_10 : decode cX2_wantOf 10 = .ok (.aload_n 1, 1) := by decide +kernel
theorem dX2_wantOf_11 : decode cX2_wantOf 11 = .ok (.iload_n 3, 1) := by decide +kernel
theorem dX2_wantOf_12 : decode cX2_wantOf 12 = .ok (.aload_n 0, 1) := by decide +kernel
theorem dX2_wantOf_13 : decode cX2_wantOf 13 = .ok (.aload_n 1, 1) := by decide +kernel
theorem dX2_wantOf_14 : decode cX2_wantOf 14 = .ok (.aload_n 2, 1) := by decide +kernel
theorem dX2_wantOf_15 : decode cX2_wantOf 15 = .ok (.iload_n 3, 1) := by decide +kernel
theorem dX2_wantOf_16 : decode cX2_wantOf 16 = .ok (.invokevirtual 92, 3) := by decide +kernel
theorem dX2_wantOf_19 : decode cX2_wantOf 19 = .ok (.invokevirtual 95, 3) := by decide +kernel
theorem dX2_wantOf_22 : decode cX2_wantOf 22 = .ok (.istore 4, 2) := by decide +kernel
theorem dX2_wantOf_24 : decode cX2_wantOf 24 = .ok (.iload 4, 2) := by decide +kernel
theorem dX2_wantOf_26 : decode cX2_wantOf 26 = .ok (.iconst (-1), 1) := by decide +kernel
theorem dX2_wantOf_27 : decode cX2_wantOf 27 = .ok (.if_icmp .eq 12, 3) := by decide +kernel
theorem dX2_wantOf_30 : decode cX2_wantOf 30 = .ok (.aload_n 2, 1) := by decide +kernel
theorem dX2_wantOf_31 : decode cX2_wantOf 31 = .ok (.getfield 98, 3) := by decide +kernel
theorem dX2_wantOf_34 : decode cX2_wantOf 34 = .ok (.iload_n 3, 1) := by decide +kernel
theorem dX2_wantOf_35 : decode cX2_wantOf 35 = .ok (.iaload, 1) := by decide +kernel
theorem dX2_wantOf_36 : decode cX2_wantOf 36 = .ok (.ifCond .le 14, 3) := by decide +kernel
theorem dX2_wantOf_39 : decode cX2_wantOf 39 = .ok (.aload_n 1, 1) := by decide +kernel
theorem dX2_wantOf_40 : decode cX2_wantOf 40 = .ok (.getfield 101, 3) := by decide +kernel
theorem dX2_wantOf_43 : decode cX2_wantOf 43 = .ok (.iload_n 3, 1) := by decide +kernel
theorem dX2_wantOf_44 : decode cX2_wantOf 44 = .ok (.iaload, 1) := by decide +kernel
theorem dX2_wantOf_45 : decode cX2_wantOf 45 = .ok (.iconst 1, 1) := by decide +kernel
theorem dX2_wantOf_46 : decode cX2_wantOf 46 = .ok (.isub, 1) := by decide +kernel
theorem dX2_wantOf_47 : decode cX2_wantOf 47 = .ok (.goto 5, 3) := by decide +kernel
theorem dX2_wantOf_50 : decode cX2_wantOf 50 = .ok (.iload 4, 2) := by decide +kernel
theorem dX2_wantOf_52 : decode cX2_wantOf 52 = .ok (.ireturn, 1) := by decide +kernel
theorem dX2_speedOf_0 : decode cX2_speedOf 0 = .ok (.aload_n 1, 1) := by decide +kernel
theorem dX2_speedOf_1 : decode cX2_speedOf 1 = .ok (.iload_n 3, 1) := by decide +kernel
theorem dX2_speedOf_2 : decode cX2_speedOf 2 = .ok (.invokevirtual 88, 3) := by decide +kernel
theorem dX2_speedOf_5 : decode cX2_speedOf 5 = .ok (.ifCond .eq 12, 3) := by decide +kernel
theorem dX2_speedOf_8 : decode cX2_speedOf 8 = .ok (.aload_n 2, 1) := by decide +kernel
theorem dX2_speedOf_9 : decode cX2_speedOf 9 = .ok (.getfield 104, 3) := by decide +kernel
theorem dX2_speedOf_12 : decode cX2_speedOf 12 = .ok (.iload_n 3, 1) := by decide +kernel
theorem dX2_speedOf_13 : decode cX2_speedOf 13 = .ok (.iaload, 1) := by decide +kernel
theorem dX2_speedOf_14 : decode cX2_speedOf 14 = .ok (.goto 4, 3) := by decide +kernel
theorem dX2_speedOf_17 : decode cX2_speedOf 17 = .ok (.iconst (-1), 1) := by decide +kernel
theorem dX2_speedOf_18 : decode cX2_speedOf 18 = .ok (.istore 4, 2) := by decide +kernel
theorem dX2_speedOf_20 : decode cX2_speedOf 20 = .ok (.aload_n 1, 1) := by decide +kernel
theorem dX2_speedOf_21 : decode cX2_speedOf 21 = .ok (.iload_n 3, 1) := by decide +kernel
theorem dX2_speedOf_22 : decode cX2_speedOf 22 = .ok (.iload 4, 2) := by decide +kernel
theorem dX2_speedOf_24 : decode cX2_speedOf 24 = .ok (.invokevirtual 107, 3) := by decide +kernel
theorem dX2_speedOf_27 : decode cX2_speedOf 27 = .ok (.ifCond .eq 15, 3) := by decide +kernel
theorem dX2_speedOf_30 : decode cX2_speedOf 30 = .ok (.aload_n 1, 1) := by decide +kernel
theorem dX2_speedOf_31 : decode cX2_speedOf 31 = .ok (.getfield 111, 3) := by decide +kernel
theorem dX2_speedOf_34 : decode cX2_speedOf 34 = .ok (.iload_n 3, 1) := by decide +kernel
theorem dX2_speedOf_35 : decode cX2_speedOf 35 = .ok (.aaload, 1) := by decide +kernel
theorem dX2_speedOf_36 : decode cX2_speedOf 36 = .ok (.iload 4, 2) := by decide +kernel
theorem dX2_speedOf_38 : decode cX2_speedOf 38 = .ok (.iaload, 1) := by decide +kernel
theorem dX2_speedOf_39 : decode cX2_speedOf 39 = .ok (.goto 4, 3) := by decide +kernel
theorem dX2_speedOf_42 : decode cX2_speedOf 42 = .ok (.iconst 0, 1) := by decide +kernel
theorem dX2_speedOf_43 : decode cX2_speedOf 43 = .ok (.ireturn, 1) := by decide +kernel
theorem dX2_release_0 : decode cX2_release 0 = .ok (.iconst 0, 1) := by decide +kernel
theorem dX2_release_1 : decode cX2_release 1 = .ok (.istore_n 3, 1) := by decide +kernel
theorem dX2_release_2 : decode cX2_release 2 = .ok (.iload_n 3, 1) := by decide +kernel
theorem dX2_release_3 : decode cX2_release 3 = .ok (.aload_n 1, 1) := by decide +kernel
theorem dX2_release_4 : decode cX2_release 4 = .ok (.getfield 64, 3) := by decide +kernel
theorem dX2_release_7 : decode cX2_release 7 = .ok (.if_icmp .ge 75, 3) := by decide +kernel
theorem dX2_release_10 : decode cX2_release 10 = .ok (.aload_n 0, 1) := by decide +kernel
theorem dX2_release_11 : decode cX2_release 11 = .ok (.getfield 9, 3) := by decide +kernel
theorem dX2_release_14 : decode cX2_release 14 = .ok (.iload_n 3, 1) := by decide +kernel
theorem dX2_release_15 : decode cX2_release 15 = .ok (.iconst 0, 1) := by decide +kernel
theorem dX2_release_16 : decode cX2_release 16 = .ok (.iastore, 1) := by decide +kernel
theorem dX2_release_17 : decode cX2_release 17 = .ok (.aload_n 2, 1) := by decide +kernel
theorem dX2_release_18 : decode cX2_release 18 = .ok (.iload_n 3, 1) := by decide +kernel
theorem dX2_release_19 : decode cX2_release 19 = .ok (.invokevirtual 115, 3) := by decide +kernel
theorem dX2_release_22 : decode cX2_release 22 = .ok (.ifCond .ne 54, 3) := by decide +kernel
theorem dX2_release_25 : decode cX2_release 25 = .ok (.aload_n 0, 1) := by decide +kernel
theorem dX2_release_26 : decode cX2_release 26 = .ok (.aload_n 1, 1) := by decide +kernel
theorem dX2_release_27 : decode cX2_release 27 = .ok (.aload_n 2, 1) := by decide +kernel
theorem dX2_release_28 : decode cX2_release 28 = .ok (.iload_n 3, 1) := by decide +kernel
theorem dX2_release_29 : decode cX2_release 29 = .ok (.invokevirtual 118, 3) := by decide +kernel
theorem dX2_release_32 : decode cX2_release 32 = .ok (.aload_n 1, 1) := by decide +kernel
theorem dX2_release_33 : decode cX2_release 33 = .ok (.getfield 121, 3) := by decide +kernel
theorem dX2_release_36 : decode cX2_release 36 = .ok (.iload_n 3, 1) := by decide +kernel
theorem dX2_release_37 : decode cX2_release 37 = .ok (.iaload, 1) := by decide +kernel
theorem dX2_release_38 : decode cX2_release 38 = .ok (.if_icmp .ne 38, 3) := by decide +kernel
theorem dX2_release_41 : decode cX2_release 41 = .ok (.aload_n 2, 1) := by decide +kernel
theorem dX2_release_42 : decode cX2_release 42 = .ok (.getfield 124, 3) := by decide +kernel
theorem dX2_release_45 : decode cX2_release 45 = .ok (.iload_n 3, 1) := by decide +kernel
theorem dX2_release_46 : decode cX2_release 46 = .ok (.dup2, 1) := by decide +kernel
theorem dX2_release_47 : decode cX2_release 47 = .ok (.iaload, 1) := by decide +kernel
theorem dX2_release_48 : decode cX2_release 48 = .ok (.aload_n 2, 1) := by decide +kernel
theorem dX2_release_49 : decode cX2_release 49 = .ok (.getfield 127, 3) := by decide +kernel
theorem dX2_release_52 : decode cX2_release 52 = .ok (.iload_n 3, 1) := by decide +kernel
theorem dX2_release_53 : decode cX2_release 53 = .ok (.iaload, 1) := by decide +kernel
theorem dX2_release_54 : decode cX2_release 54 = .ok (.ifCond .le 7, 3) := by decide +kernel
theorem dX2_release_57 : decode cX2_release 57 = .ok (.iconst 1, 1) := by decide +kernel
theorem dX2_release_58 : decode cX2_release 58 = .ok (.goto 4, 3) := by decide +kernel
theorem dX2_release_61 : decode cX2_release 61 = .ok (.iconst 0, 1) := by decide +kernel
theorem dX2_release_62 : decode cX2_release 62 = .ok (.iadd, 1) := by decide +kernel
theorem dX2_release_63 : decode cX2_release 63 = .ok (.iastore, 1) := by decide +kernel
theorem dX2_release_64 : decode cX2_release 64 = .ok (.aload_n 2, 1) := by decide +kernel
theorem dX2_release_65 : decode cX2_release 65 = .ok (.getfield 127, 3) := by decide +kernel
theorem dX2_release_68 : decode cX2_release 68 = .ok (.iload_n 3, 1) := by decide +kernel
theorem dX2_release_69 : decode cX2_release 69 = .ok (.aload_n 1, 1) := by decide +kernel
theorem dX2_release_70 : decode cX2_release 70 = .ok (.getfield 130, 3) := by decide +kernel
theorem dX2_release_73 : decode cX2_release 73 = .ok (.iload_n 3, 1) := by decide +kernel
theorem dX2_release_74 : decode cX2_release 74 = .ok (.iaload, 1) := by decide +kernel
theorem dX2_release_75 : decode cX2_release 75 = .ok (.iastore, 1) := by decide +kernel
theorem dX2_release_76 : decode cX2_release 76 = .ok (.iinc 3 1, 3) := by decide +kernel
theorem dX2_release_79 : decode cX2_release 79 = .ok (.goto (-77), 3) := by decide +kernel
theorem dX2_release_82 : decode cX2_release 82 = .ok (.return_, 1) := by decide +kernel
theorem dX2_ticksLeft_0 : decode cX2_ticksLeft 0 = .ok (.aload_n 1, 1) := by decide +kernel
theorem dX2_ticksLeft_1 : decode cX2_ticksLeft 1 = .ok (.getfield 121, 3) := by decide +kernel
theorem dX2_ticksLeft_4 : decode cX2_ticksLeft 4 = .ok (.iload_n 3, 1) := by decide +kernel
theorem dX2_ticksLeft_5 : decode cX2_ticksLeft 5 = .ok (.iaload, 1) := by decide +kernel
theorem dX2_ticksLeft_6 : decode cX2_ticksLeft 6 = .ok (.istore 4, 2) := by decide +kernel
theorem dX2_ticksLeft_8 : decode cX2_ticksLeft 8 = .ok (.iload 4, 2) := by decide +kernel
theorem dX2_ticksLeft_10 : decode cX2_ticksLeft 10 = .ok (.iconst 1, 1) := by decide +kernel
theorem dX2_ticksLeft_11 : decode cX2_ticksLeft 11 = .ok (.if_icmp .ge 7, 3) := by decide +kernel
theorem dX2_ticksLeft_14 : decode cX2_ticksLeft 14 = .ok (.iconst 0, 1) := by decide +kernel
theorem dX2_ticksLeft_15 : decode cX2_ticksLeft 15 = .ok (.goto 13, 3) := by decide +kernel
theorem dX2_ticksLeft_18 : decode cX2_ticksLeft 18 = .ok (.iload 4, 2) := by decide +kernel
theorem dX2_ticksLeft_20 : decode cX2_ticksLeft 20 = .ok (.aload_n 2, 1) := by decide +kernel
theorem dX2_ticksLeft_21 : decode cX2_ticksLeft 21 = .ok (.getfield 61, 3) := by decide +kernel
theorem dX2_ticksLeft_24 : decode cX2_ticksLeft 24 = .ok (.iload 4, 2) := by decide +kernel
theorem dX2_ticksLeft_26 : decode cX2_ticksLeft 26 = .ok (.irem, 1) := by decide +kernel
theorem dX2_ticksLeft_27 : decode cX2_ticksLeft 27 = .ok (.isub, 1) := by decide +kernel
theorem dX2_ticksLeft_28 : decode cX2_ticksLeft 28 = .ok (.ireturn, 1) := by decide +kernel
theorem dX2_wakeCores_0 : decode cX2_wakeCores 0 = .ok (.iconst 0, 1) := by decide +kernel
theorem dX2_wakeCores_1 : decode cX2_wakeCores 1 = .ok (.istore_n 3, 1) := by decide +kernel
theorem dX2_wakeCores_2 : decode cX2_wakeCores 2 = .ok (.iconst 0, 1) := by decide +kernel
theorem dX2_wakeCores_3 : decode cX2_wakeCores 3 = .ok (.istore 4, 2) := by decide +kernel
theorem dX2_wakeCores_5 : decode cX2_wakeCores 5 = .ok (.iload 4, 2) := by decide +kernel
theorem dX2_wakeCores_7 : decode cX2_wakeCores 7 = .ok (.aload_n 1, 1) := by decide +kernel
theorem dX2_wakeCores_8 : decode cX2_wakeCores 8 = .ok (.getfield 64, 3) := by decide +kernel
theorem dX2_wakeCores_11 : decode cX2_wakeCores 11 = .ok (.if_icmp .ge 76, 3) := by decide +kernel
theorem dX2_wakeCores_14 : decode cX2_wakeCores 14 = .ok (.aload_n 2, 1) := by decide +kernel
theorem dX2_wakeCores_15 : decode cX2_wakeCores 15 = .ok (.getfield 67, 3) := by decide +kernel
theorem dX2_wakeCores_18 : decode cX2_wakeCores 18 = .ok (.iload 4, 2) := by decide +kernel
theorem dX2_wakeCores_20 : decode cX2_wakeCores 20 = .ok (.iaload, 1) := by decide +kernel
theorem dX2_wakeCores_21 : decode cX2_wakeCores 21 = .ok (.istore 5, 2) := by decide +kernel
theorem dX2_wakeCores_23 : decode cX2_wakeCores 23 = .ok (.aload_n 2, 1) := by decide +kernel
theorem dX2_wakeCores_24 : decode cX2_wakeCores 24 = .ok (.getfield 127, 3) := by decide +kernel
theorem dX2_wakeCores_27 : decode cX2_wakeCores 27 = .ok (.iload 4, 2) := by decide +kernel
theorem dX2_wakeCores_29 : decode cX2_wakeCores 29 = .ok (.iaload, 1) := by decide +kernel
theorem dX2_wakeCores_30 : decode cX2_wakeCores 30 = .ok (.ifCond .le 51, 3) := by decide +kernel
theorem dX2_wakeCores_33 : decode cX2_wakeCores 33 = .ok (.aload_n 1, 1) := by decide +kernel
theorem dX2_wakeCores_34 : decode cX2_wakeCores 34 = .ok (.iload 5, 2) := by decide +kernel
theorem dX2_wakeCores_36 : decode cX2_wakeCores 36 = .ok (.invokevirtual 132, 3) := by decide +kernel
theorem dX2_wakeCores_39 : decode cX2_wakeCores 39 = .ok (.ifCond .eq 42, 3) := by decide +kernel
theorem dX2_wakeCores_42 : decode cX2_wakeCores 42 = .ok (.aload_n 2, 1) := by decide +kernel
theorem dX2_wakeCores_43 : decode cX2_wakeCores 43 = .ok (.iload 5, 2) := by decide +kernel
theorem dX2_wakeCores_45 : decode cX2_wakeCores 45 = .ok (.invokevirtual 135, 3) := by decide +kernel
theorem dX2_wakeCores_48 : decode cX2_wakeCores 48 = .ok (.ifCond .eq 33, 3) := by decide +kernel
theorem dX2_wakeCores_51 : decode cX2_wakeCores 51 = .ok (.aload_n 2, 1) := by decide +kernel
theorem dX2_wakeCores_52 : decode cX2_wakeCores 52 = .ok (.aload_n 2, 1) := by decide +kernel
theorem dX2_wakeCores_53 : decode cX2_wakeCores 53 = .ok (.getfield 138, 3) := by decide +kernel
theorem dX2_wakeCores_56 : decode cX2_wakeCores 56 = .ok (.iload 5, 2) := by decide +kernel
theorem dX2_wakeCores_58 : decode cX2_wakeCores 58 = .ok (.iconst 0, 1) := by decide +kernel
theorem dX2_wakeCores_59 : decode cX2_wakeCores 59 = .ok (.invokestatic 141, 3) := by decide +kernel
theorem dX2_wakeCores_62 : decode cX2_wakeCores 62 = .ok (.putfield 138, 3) := by decide +kernel
theorem dX2_wakeCores_65 : decode cX2_wakeCores 65 = .ok (.iload_n 3, 1) := by decide +kernel
theorem dX2_wakeCores_66 : decode cX2_wakeCores 66 = .ok (.aload_n 0, 1) := by decide +kernel
theorem dX2_wakeCores_67 : decode cX2_wakeCores 67 = .ok (.aload_n 1, 1) := by decide +kernel
theorem dX2_wakeCores_68 : decode cX2_wakeCores 68 = .ok (.aload_n 2, 1) := by decide +kernel
theorem dX2_wakeCores_69 : decode cX2_wakeCores 69 = .ok (.aload_n 1, 1) := by decide +kernel
theorem dX2_wakeCores_70 : decode cX2_wakeCores 70 = .ok (.getfield 73, 3) := by decide +kernel
theorem dX2_wakeCores_73 : decode cX2_wakeCores 73 = .ok (.iload 5, 2) := by decide +kernel
theorem dX2_wakeCores_75 : decode cX2_wakeCores 75 = .ok (.iaload, 1) := by decide +kernel
theorem dX2_wakeCores_76 : decode cX2_wakeCores 76 = .ok (.invokevirtual 145, 3) := by decide +kernel
theorem dX2_wakeCores_79 : decode cX2_wakeCores 79 = .ok (.iadd, 1) := by decide +kernel
theorem dX2_wakeCores_80 : decode cX2_wakeCores 80 = .ok (.istore_n 3, 1) := by decide +kernel
theorem dX2_wakeCores_81 : decode cX2_wakeCores 81 = .ok (.iinc 4 1, 3) := by decide +kernel
theorem dX2_wakeCores_84 : decode cX2_wakeCores 84 = .ok (.goto (-79), 3) := by decide +kernel
theorem dX2_wakeCores_87 : decode cX2_wakeCores 87 = .ok (.iload_n 3, 1) := by decide +kernel
theorem dX2_wakeCores_88 : decode cX2_wakeCores 88 = .ok (.ireturn, 1) := by decide +kernel
theorem dX2_wakeCluster_0 : decode cX2_wakeCluster 0 = .ok (.aload_n 1, 1) := by decide +kernel
theorem dX2_wakeCluster_1 : decode cX2_wakeCluster 1 = .ok (.iload_n 3, 1) := by decide +kernel
theorem dX2_wakeCluster_2 : decode cX2_wakeCluster 2 = .ok (.invokevirtual 88, 3) := by decide +kernel
theorem dX2_wakeCluster_5 : decode cX2_wakeCluster 5 = .ok (.ifCond .ne 5, 3) := by decide +kernel
theorem dX2_wakeCluster_8 : decode cX2_wakeCluster 8 = .ok (.iconst 0, 1) := by decide +kernel
theorem dX2_wakeCluster_9 : decode cX2_wakeCluster 9 = .ok (.ireturn, 1) := by decide +kernel
theorem dX2_wakeCluster_10 : decode cX2_wakeCluster 10 = .ok (.aload_n 2, 1) := by decide +kernel
theorem dX2_wakeCluster_11 : decode cX2_wakeCluster 11 = .ok (.getfield 98, 3) := by decide +kernel
theorem dX2_wakeCluster_14 : decode cX2_wakeCluster 14 = .ok (.iload_n 3, 1) := by decide +kernel
theorem dX2_wakeCluster_15 : decode cX2_wakeCluster 15 = .ok (.aload_n 1, 1) := by decide +kernel
theorem dX2_wakeCluster_16 : decode cX2_wakeCluster 16 = .ok (.getfield 54, 3) := by decide +kernel
theorem dX2_wakeCluster_19 : decode cX2_wakeCluster 19 = .ok (.iconst 3, 1) := by decide +kernel
theorem dX2_wakeCluster_20 : decode cX2_wakeCluster 20 = .ok (.iaload, 1) := by decide +kernel
theorem dX2_wakeCluster_21 : decode cX2_wakeCluster 21 = .ok (.iastore, 1) := by decide +kernel
theorem dX2_wakeCluster_22 : decode cX2_wakeCluster 22 = .ok (.aload_n 1, 1) := by decide +kernel
theorem dX2_wakeCluster_23 : decode cX2_wakeCluster 23 = .ok (.getfield 148, 3) := by decide +kernel
theorem dX2_wakeCluster_26 : decode cX2_wakeCluster 26 = .ok (.iload_n 3, 1) := by decide +kernel
theorem dX2_wakeCluster_27 : decode cX2_wakeCluster 27 = .ok (.iaload, 1) := by decide +kernel
theorem dX2_wakeCluster_28 : decode cX2_wakeCluster 28 = .ok (.ireturn, 1) := by decide +kernel
theorem dX2_goTowards_0 : decode cX2_goTowards 0 = .ok (.aload_n 2, 1) := by decide +kernel
theorem dX2_goTowards_1 : decode cX2_goTowards 1 = .ok (.getfield 104, 3) := by decide +kernel
theorem dX2_goTowards_4 : decode cX2_goTowards 4 = .ok (.iload_n 3, 1) := by decide +kernel
theorem dX2_goTowards_5 : decode cX2_goTowards 5 = .ok (.iaload, 1) := by decide +kernel
theorem dX2_goTowards_6 : decode cX2_goTowards 6 = .ok (.istore 5, 2) := by decide +kernel
theorem dX2_goTowards_8 : decode cX2_goTowards 8 = .ok (.iload 4, 2) := by decide +kernel
theorem dX2_goTowards_10 : decode cX2_goTowards 10 = .ok (.iload 5, 2) := by decide +kernel
theorem dX2_goTowards_12 : decode cX2_goTowards 12 = .ok (.if_icmp .le 17, 3) := by decide +kernel
theorem dX2_goTowards_15 : decode cX2_goTowards 15 = .ok (.iload 4, 2) := by decide +kernel
theorem dX2_goTowards_17 : decode cX2_goTowards 17 = .ok (.istore 5, 2) := by decide +kernel
theorem dX2_goTowards_19 : decode cX2_goTowards 19 = .ok (.aload_n 2, 1) := by decide +kernel
theorem dX2_goTowards_20 : decode cX2_goTowards 20 = .ok (.getfield 151, 3) := by decide +kernel
theorem dX2_goTowards_23 : decode cX2_goTowards 23 = .ok (.iload_n 3, 1) := by decide +kernel
theorem dX2_goTowards_24 : decode cX2_goTowards 24 = .ok (.iconst 0, 1) := by decide +kernel
theorem dX2_goTowards_25 : decode cX2_goTowards 25 = .ok (.iastore, 1) := by decide +kernel
theorem dX2_goTowards_26 : decode cX2_goTowards 26 = .ok (.goto 48, 3) := by decide +kernel
theorem dX2_goTowards_29 : decode cX2_goTowards 29 = .ok (.iload 4, 2) := by decide +kernel
theorem dX2_goTowards_31 : decode cX2_goTowards 31 = .ok (.iload 5, 2) := by decide +kernel
theorem dX2_goTowards_33 : decode cX2_goTowards 33 = .ok (.if_icmp .ge 31, 3) := by decide +kernel
theorem dX2_goTowards_36 : decode cX2_goTowards 36 = .ok (.aload_n 2, 1) := by decide +kernel
theorem dX2_goTowards_37 : decode cX2_goTowards 37 = .ok (.getfield 151, 3) := by decide +kernel
theorem dX2_goTowards_40 : decode cX2_goTowards 40 = .ok (.iload_n 3, 1) := by decide +kernel
theorem dX2_goTowards_41 : decode cX2_goTowards 41 = .ok (.iaload, 1) := by decide +kernel
theorem dX2_goTowards_42 : decode cX2_goTowards 42 = .ok (.aload_n 1, 1) := by decide +kernel
theorem dX2_goTowards_43 : decode cX2_goTowards 43 = .ok (.getfield 54, 3) := by decide +kernel
theorem dX2_goTowards_46 : decode cX2_goTowards 46 = .ok (.iconst 1, 1) := by decide +kernel
theorem dX2_goTowards_47 : decode cX2_goTowards 47 = .ok (.iaload, 1) := by decide +kernel
theorem dX2_goTowards_48 : decode cX2_goTowards 48 = .ok (.if_icmp .lt 16, 3) := by decide +kernel
theorem dX2_goTowards_51 : decode cX2_goTowards 51 = .ok (.iinc 5 (-1), 3) := by decide +kernel
theorem dX2_goTowards_54 : decode cX2_goTowards 54 = .ok (.aload_n 2, 1) := by decide +kernel
theorem dX2_goTowards_55 : decode cX2_goTowards 55 = .ok (.getfield 151, 3) := by decide +kernel
theorem dX2_goTowards_58 : decode cX2_goTowards 58 = .ok (.iload_n 3, 1) := by decide +kernel
theorem dX2_goTowards_59 : decode cX2_goTowards 59 = .ok (.iconst 0, 1) := by decide +kernel
theorem dX2_goTowards_60 : decode cX2_goTowards 60 = .ok (.iastore, 1) := by decide +kernel
theorem dX2_goTowards_61 : decode cX2_goTowards 61 = .ok (.goto 13, 3) := by decide +kernel
theorem dX2_goTowards_64 : decode cX2_goTowards 64 = .ok (.aload_n 2, 1) := by decide +kernel
theorem dX2_goTowards_65 : decode cX2_goTowards 65 = .ok (.getfield 151, 3) := by decide +kernel
theorem dX2_goTowards_68 : decode cX2_goTowards 68 = .ok (.iload_n 3, 1) := by decide +kernel
theorem dX2_goTowards_69 : decode cX2_goTowards 69 = .ok (.dup2, 1) := by decide +kernel
theorem dX2_goTowards_70 : decode cX2_goTowards 70 = .ok (.iaload, 1) := by decide +kernel
theorem dX2_goTowards_71 : decode cX2_goTowards 71 = .ok (.iconst 1, 1) := by decide +kernel
theorem dX2_goTowards_72 : decode cX2_goTowards 72 = .ok (.iadd, 1) := by decide +kernel
theorem dX2_goTowards_73 : decode cX2_goTowards 73 = .ok (.iastore, 1) := by decide +kernel
theorem dX2_goTowards_74 : decode cX2_goTowards 74 = .ok (.iload 5, 2) := by decide +kernel
theorem dX2_goTowards_76 : decode cX2_goTowards 76 = .ok (.aload_n 2, 1) := by decide +kernel
theorem dX2_goTowards_77 : decode cX2_goTowards 77 = .ok (.iload_n 3, 1) := by decide +kernel
theorem dX2_goTowards_78 : decode cX2_goTowards 78 = .ok (.invokevirtual 154, 3) := by decide +kernel
theorem dX2_goTowards_81 : decode cX2_goTowards 81 = .ok (.invokestatic 76, 3) := by decide +kernel
theorem dX2_goTowards_84 : decode cX2_goTowards 84 = .ok (.istore 5, 2) := by decide +kernel
theorem dX2_goTowards_86 : decode cX2_goTowards 86 = .ok (.iload 5, 2) := by decide +kernel
theorem dX2_goTowards_88 : decode cX2_goTowards 88 = .ok (.aload_n 2, 1) := by decide +kernel
theorem dX2_goTowards_89 : decode cX2_goTowards 89 = .ok (.aload_n 1, 1) := by decide +kernel
theorem dX2_goTowards_90 : decode cX2_goTowards 90 = .ok (.iload_n 3, 1) := by decide +kernel
theorem dX2_goTowards_91 : decode cX2_goTowards 91 = .ok (.invokevirtual 158, 3) := by decide +kernel
theorem dX2_goTowards_94 : decode cX2_goTowards 94 = .ok (.invokestatic 162, 3) := by decide +kernel
theorem dX2_goTowards_97 : decode cX2_goTowards 97 = .ok (.istore 5, 2) := by decide +kernel
theorem dX2_goTowards_99 : decode cX2_goTowards 99 = .ok (.aload_n 2, 1) := by decide +kernel
theorem dX2_goTowards_100 : decode cX2_goTowards 100 = .ok (.getfield 51, 3) := by decide +kernel
theorem dX2_goTowards_103 : decode cX2_goTowards 103 = .ok (.aload_n 1, 1) := by decide +kernel
theorem dX2_goTowards_104 : decode cX2_goTowards 104 = .ok (.getfield 54, 3) := by decide +kernel
theorem dX2_goTowards_107 : decode cX2_goTowards 107 = .ok (.iconst 4, 1) := by decide +kernel
theorem dX2_goTowards_108 : decode cX2_goTowards 108 = .ok (.iaload, 1) := by decide +kernel
theorem dX2_goTowards_109 : decode cX2_goTowards 109 = .ok (.if_icmp .le 6, 3) := by decide +kernel
theorem dX2_goTowards_112 : decode cX2_goTowards 112 = .ok (.iinc 5 (-1), 3) := by decide +kernel
theorem dX2_goTowards_115 : decode cX2_goTowards 115 = .ok (.aload_n 2, 1) := by decide +kernel
theorem dX2_goTowards_116 : decode cX2_goTowards 116 = .ok (.getfield 104, 3) := by decide +kernel
theorem dX2_goTowards_119 : decode cX2_goTowards 119 = .ok (.iload_n 3, 1) := by decide +kernel
theorem dX2_goTowards_120 : decode cX2_goTowards 120 = .ok (.iload 5, 2) := by decide +kernel
theorem dX2_goTowards_122 : decode cX2_goTowards 122 = .ok (.iconst 0, 1) := by decide +kernel
theorem dX2_goTowards_123 : decode cX2_goTowards 123 = .ok (.invokestatic 76, 3) := by decide +kernel
theorem dX2_goTowards_126 : decode cX2_goTowards 126 = .ok (.iastore, 1) := by decide +kernel
theorem dX2_goTowards_127 : decode cX2_goTowards 127 = .ok (.aload_n 2, 1) := by decide +kernel
theorem dX2_goTowards_128 : decode cX2_goTowards 128 = .ok (.getfield 98, 3) := by decide +kernel
theorem dX2_goTowards_131 : decode cX2_goTowards 131 = .ok (.iload_n 3, 1) := by decide +kernel
theorem dX2_goTowards_132 : decode cX2_goTowards 132 = .ok (.aload_n 2, 1) := by decide +kernel
theorem dX2_goTowards_133 : decode cX2_goTowards 133 = .ok (.getfield 98, 3) := by decide +kernel
theorem dX2_goTowards_136 : decode cX2_goTowards 136 = .ok (.iload_n 3, 1) := by decide +kernel
theorem dX2_goTowards_137 : decode cX2_goTowards 137 = .ok (.iaload, 1) := by decide +kernel
theorem dX2_goTowards_138 : decode cX2_goTowards 138 = .ok (.iconst 1, 1) := by decide +kernel
theorem dX2_goTowards_139 : decode cX2_goTowards 139 = .ok (.isub, 1) := by decide +kernel
theorem dX2_goTowards_140 : decode cX2_goTowards 140 = .ok (.iconst 0, 1) := by decide +kernel
theorem dX2_goTowards_141 : decode cX2_goTowards 141 = .ok (.invokestatic 76, 3) := by decide +kernel
theorem dX2_goTowards_144 : decode cX2_goTowards 144 = .ok (.iastore, 1) := by decide +kernel
theorem dX2_goTowards_145 : decode cX2_goTowards 145 = .ok (.return_, 1) := by decide +kernel
theorem dX2_work_0 : decode cX2_work 0 = .ok (.aload_n 1, 1) := by decide +kernel
theorem dX2_work_1 : decode cX2_work 1 = .ok (.getfield 73, 3) := by decide +kernel
theorem dX2_work_4 : decode cX2_work 4 = .ok (.iload_n 3, 1) := by decide +kernel
theorem dX2_work_5 : decode cX2_work 5 = .ok (.iaload, 1) := by decide +kernel
theorem dX2_work_6 : decode cX2_work 6 = .ok (.istore 4, 2) := by decide +kernel
theorem dX2_work_8 : decode cX2_work 8 = .ok (.aload_n 0, 1) := by decide +kernel
theorem dX2_work_9 : decode cX2_work 9 = .ok (.aload_n 1, 1) := by decide +kernel
theorem dX2_work_10 : decode cX2_work 10 = .ok (.aload_n 2, 1) := by decide +kernel
theorem dX2_work_11 : decode cX2_work 11 = .ok (.iload 4, 2) := by decide +kernel
theorem dX2_work_13 : decode cX2_work 13 = .ok (.invokevirtual 165, 3) := by decide +kernel
theorem dX2_work_16 : decode cX2_work 16 = .ok (.istore 5, 2) := by decide +kernel
theorem dX2_work_18 : decode cX2_work 18 = .ok (.iload 5, 2) := by decide +kernel
theorem dX2_work_20 : decode cX2_work 20 = .ok (.istore 6, 2) := by decide +kernel
theorem dX2_work_22 : decode cX2_work 22 = .ok (.iconst 0, 1) := by decide +kernel
theorem dX2_work_23 : decode cX2_work 23 = .ok (.istore 7, 2) := by decide +kernel
theorem dX2_work_25 : decode cX2_work 25 = .ok (.iload 7, 2) := by decide +kernel
theorem dX2_work_27 : decode cX2_work 27 = .ok (.aload_n 1, 1) := by decide +kernel
theorem dX2_work_28 : decode cX2_work 28 = .ok (.getfield 64, 3) := by decide +kernel
theorem dX2_work_31 : decode cX2_work 31 = .ok (.if_icmp .ge 77, 3) := by decide +kernel
theorem dX2_work_34 : decode cX2_work 34 = .ok (.iload 6, 2) := by decide +kernel
theorem dX2_work_36 : decode cX2_work 36 = .ok (.ifCond .le 72, 3) := by decide +kernel
theorem dX2_work_39 : decode cX2_work 39 = .ok (.aload_n 0, 1) := by decide +kernel
theorem dX2_work_40 : decode cX2_work 40 = .ok (.aload_n 1, 1) := by decide +kernel
theorem dX2_work_41 : decode cX2_work 41 = .ok (.aload_n 2, 1) := by decide +kernel
theorem dX2_work_42 : decode cX2_work 42 = .ok (.iload_n 3, 1) := by decide +kernel
theorem dX2_work_43 : decode cX2_work 43 = .ok (.invokevirtual 168, 3) := by decide +kernel
theorem dX2_work_46 : decode cX2_work 46 = .ok (.istore 8, 2) := by decide +kernel
theorem dX2_work_48 : decode cX2_work 48 = .ok (.iload 8, 2) := by decide +kernel
theorem dX2_work_50 : decode cX2_work 50 = .ok (.iconst (-1), 1) := by decide +kernel
theorem dX2_work_51 : decode cX2_work 51 = .ok (.if_icmp .ne 6, 3) := by decide +kernel
theorem dX2_work_54 : decode cX2_work 54 = .ok (.goto 54, 3) := by decide +kernel
theorem dX2_work_57 : decode cX2_work 57 = .ok (.iload 6, 2) := by decide +kernel
theorem dX2_work_59 : decode cX2_work 59 = .ok (.aload_n 2, 1) := by decide +kernel
theorem dX2_work_60 : decode cX2_work 60 = .ok (.getfield 127, 3) := by decide +kernel
theorem dX2_work_63 : decode cX2_work 63 = .ok (.iload 8, 2) := by decide +kernel
theorem dX2_work_65 : decode cX2_work 65 = .ok (.iaload, 1) := by decide +kernel
theorem dX2_work_66 : decode cX2_work 66 = .ok (.invokestatic 162, 3) := by decide +kernel
theorem dX2_work_69 : decode cX2_work 69 = .ok (.istore 9, 2) := by decide +kernel
theorem dX2_work_71 : decode cX2_work 71 = .ok (.aload_n 2, 1) := by decide +kernel
theorem dX2_work_72 : decode cX2_work 72 = .ok (.getfield 127, 3) := by decide +kernel
theorem dX2_work_75 : decode cX2_work 75 = .ok (.iload 8, 2) := by decide +kernel
theorem dX2_work_77 : decode cX2_work 77 = .ok (.dup2, 1) := by decide +kernel
theorem dX2_work_78 : decode cX2_work 78 = .ok (.iaload, 1) := by decide +kernel
theorem dX2_work_79 : decode cX2_work 79 = .ok (.iload 9, 2) := by decide +kernel
theorem dX2_work_81 : decode cX2_work 81 = .ok (.isub, 1) := by decide +kernel
theorem dX2_work_82 : decode cX2_work 82 = .ok (.iastore, 1) := by decide +kernel
theorem dX2_work_83 : decode cX2_work 83 = .ok (.aload_n 0, 1) := by decide +kernel
theorem dX2_work_84 : decode cX2_work 84 = .ok (.getfield 9, 3) := by decide +kernel
theorem dX2_work_87 : decode cX2_work 87 = .ok (.iload 8, 2) := by decide +kernel
theorem dX2_work_89 : decode cX2_work 89 = .ok (.dup2, 1) := by decide +kernel
theorem dX2_work_90 : decode cX2_work 90 = .ok (.iaload, 1) := by decide +kernel
theorem dX2_work_91 : decode cX2_work 91 = .ok (.iload 9, 2) := by decide +kernel
theorem dX2_work_93 : decode cX2_work 93 = .ok (.iadd, 1) := by decide +kernel
theorem dX2_work_94 : decode cX2_work 94 = .ok (.iastore, 1) := by decide +kernel
theorem dX2_work_95 : decode cX2_work 95 = .ok (.iload 6, 2) := by decide +kernel
theorem dX2_work_97 : decode cX2_work 97 = .ok (.iload 9, 2) := by decide +kernel
theorem dX2_work_99 : decode cX2_work 99 = .ok (.isub, 1) := by decide +kernel
theorem dX2_work_100 : decode cX2_work 100 = .ok (.istore 6, 2) := by decide +kernel
theorem dX2_work_102 : decode cX2_work 102 = .ok (.iinc 7 1, 3) := by decide +kernel
theorem dX2_work_105 : decode cX2_work 105 = .ok (.goto (-80), 3) := by decide +kernel
theorem dX2_work_108 : decode cX2_work 108 = .ok (.iload 5, 2) := by decide +kernel
theorem dX2_work_110 : decode cX2_work 110 = .ok (.iload 6, 2) := by decide +kernel
theorem dX2_work_112 : decode cX2_work 112 = .ok (.isub, 1) := by decide +kernel
theorem dX2_work_113 : decode cX2_work 113 = .ok (.aload_n 0, 1) := by decide +kernel
theorem dX2_work_114 : decode cX2_work 114 = .ok (.aload_n 1, 1) := by decide +kernel
theorem dX2_work_115 : decode cX2_work 115 = .ok (.aload_n 2, 1) := by decide +kernel
theorem dX2_work_116 : decode cX2_work 116 = .ok (.iload 4, 2) := by decide +kernel
theorem dX2_work_118 : decode cX2_work 118 = .ok (.invokevirtual 171, 3) := by decide +kernel
theorem dX2_work_121 : decode cX2_work 121 = .ok (.imul, 1) := by decide +kernel
theorem dX2_work_122 : decode cX2_work 122 = .ok (.istore 7, 2) := by decide +kernel
theorem dX2_work_124 : decode cX2_work 124 = .ok (.aload_n 2, 1) := by decide +kernel
theorem dX2_work_125 : decode cX2_work 125 = .ok (.iload_n 3, 1) := by decide +kernel
theorem dX2_work_126 : decode cX2_work 126 = .ok (.invokevirtual 135, 3) := by decide +kernel
theorem dX2_work_129 : decode cX2_work 129 = .ok (.ifCond .ne 24, 3) := by decide +kernel
theorem dX2_work_132 : decode cX2_work 132 = .ok (.aload_n 1, 1) := by decide +kernel
theorem dX2_work_133 : decode cX2_work 133 = .ok (.iload 4, 2) := by decide +kernel
theorem dX2_work_135 : decode cX2_work 135 = .ok (.invokevirtual 88, 3) := by decide +kernel
theorem dX2_work_138 : decode cX2_work 138 = .ok (.ifCond .eq 15, 3) := by decide +kernel
theorem dX2_work_141 : decode cX2_work 141 = .ok (.iload 7, 2) := by decide +kernel
theorem dX2_work_143 : decode cX2_work 143 = .ok (.aload_n 1, 1) := by decide +kernel
theorem dX2_work_144 : decode cX2_work 144 = .ok (.getfield 174, 3) := by decide +kernel
theorem dX2_work_147 : decode cX2_work 147 = .ok (.iload 4, 2) := by decide +kernel
theorem dX2_work_149 : decode cX2_work 149 = .ok (.iaload, 1) := by decide +kernel
theorem dX2_work_150 : decode cX2_work 150 = .ok (.iadd, 1) := by decide +kernel
theorem dX2_work_151 : decode cX2_work 151 = .ok (.istore 7, 2) := by decide +kernel
theorem dX2_work_153 : decode cX2_work 153 = .ok (.aload_n 0, 1) := by decide +kernel
theorem dX2_work_154 : decode cX2_work 154 = .ok (.aload_n 1, 1) := by decide +kernel
theorem dX2_work_155 : decode cX2_work 155 = .ok (.aload_n 2, 1) := by decide +kernel
theorem dX2_work_156 : decode cX2_work 156 = .ok (.iload_n 3, 1) := by decide +kernel
theorem dX2_work_157 : decode cX2_work 157 = .ok (.iload 6, 2) := by decide +kernel
theorem dX2_work_159 : decode cX2_work 159 = .ok (.iload 5, 2) := by decide +kernel
theorem dX2_work_161 : decode cX2_work 161 = .ok (.if_icmp .ne 7, 3) := by decide +kernel
theorem dX2_work_164 : decode cX2_work 164 = .ok (.iconst 1, 1) := by decide +kernel
theorem dX2_work_165 : decode cX2_work 165 = .ok (.goto 4, 3) := by decide +kernel
theorem dX2_work_168 : decode cX2_work 168 = .ok (.iconst 0, 1) := by decide +kernel
theorem dX2_work_169 : decode cX2_work 169 = .ok (.invokevirtual 177, 3) := by decide +kernel
theorem dX2_work_172 : decode cX2_work 172 = .ok (.iload 7, 2) := by decide +kernel
theorem dX2_work_174 : decode cX2_work 174 = .ok (.ireturn, 1) := by decide +kernel
theorem dX2_costOf_0 : decode cX2_costOf 0 = .ok (.aload_n 1, 1) := by decide +kernel
theorem dX2_costOf_1 : decode cX2_costOf 1 = .ok (.iload_n 3, 1) := by decide +kernel
theorem dX2_costOf_2 : decode cX2_costOf 2 = .ok (.invokevirtual 88, 3) := by decide +kernel
theorem dX2_costOf_5 : decode cX2_costOf 5 = .ok (.ifCond .eq 12, 3) := by decide +kernel
theorem dX2_costOf_8 : decode cX2_costOf 8 = .ok (.aload_n 2, 1) := by decide +kernel
theorem dX2_costOf_9 : decode cX2_costOf 9 = .ok (.getfield 104, 3) := by decide +kernel
theorem dX2_costOf_12 : decode cX2_costOf 12 = .ok (.iload_n 3, 1) := by decide +kernel
theorem dX2_costOf_13 : decode cX2_costOf 13 = .ok (.iaload, 1) := by decide +kernel
theorem dX2_costOf_14 : decode cX2_costOf 14 = .ok (.goto 4, 3) := by decide +kernel
theorem dX2_costOf_17 : decode cX2_costOf 17 = .ok (.iconst (-1), 1) := by decide +kernel
theorem dX2_costOf_18 : decode cX2_costOf 18 = .ok (.istore 4, 2) := by decide +kernel
theorem dX2_costOf_20 : decode cX2_costOf 20 = .ok (.aload_n 1, 1) := by decide +kernel
theorem dX2_costOf_21 : decode cX2_costOf 21 = .ok (.iload_n 3, 1) := by decide +kernel
theorem dX2_costOf_22 : decode cX2_costOf 22 = .ok (.iload 4, 2) := by decide +kernel
theorem dX2_costOf_24 : decode cX2_costOf 24 = .ok (.invokevirtual 107, 3) := by decide +kernel
theorem dX2_costOf_27 : decode cX2_costOf 27 = .ok (.ifCond .eq 15, 3) := by decide +kernel
theorem dX2_costOf_30 : decode cX2_costOf 30 = .ok (.aload_n 1, 1) := by decide +kernel
theorem dX2_costOf_31 : decode cX2_costOf 31 = .ok (.getfield 181, 3) := by decide +kernel
theorem dX2_costOf_34 : decode cX2_costOf 34 = .ok (.iload_n 3, 1) := by decide +kernel
theorem dX2_costOf_35 : decode cX2_costOf 35 = .ok (.aaload, 1) := by decide +kernel
theorem dX2_costOf_36 : decode cX2_costOf 36 = .ok (.iload 4, 2) := by decide +kernel
theorem dX2_costOf_38 : decode cX2_costOf 38 = .ok (.iaload, 1) := by decide +kernel
theorem dX2_costOf_39 : decode cX2_costOf 39 = .ok (.goto 4, 3) := by decide +kernel
theorem dX2_costOf_42 : decode cX2_costOf 42 = .ok (.iconst 0, 1) := by decide +kernel
theorem dX2_costOf_43 : decode cX2_costOf 43 = .ok (.ireturn, 1) := by decide +kernel
theorem dX2_mostUrgent_0 : decode cX2_mostUrgent 0 = .ok (.iconst (-1), 1) := by decide +kernel
theorem dX2_mostUrgent_1 : decode cX2_mostUrgent 1 = .ok (.istore 4, 2) := by decide +kernel
theorem dX2_mostUrgent_3 : decode cX2_mostUrgent 3 = .ok (.iconst 0, 1) := by decide +kernel
theorem dX2_mostUrgent_4 : decode cX2_mostUrgent 4 = .ok (.istore 5, 2) := by decide +kernel
theorem dX2_mostUrgent_6 : decode cX2_mostUrgent 6 = .ok (.iload 5, 2) := by decide +kernel
theorem dX2_mostUrgent_8 : decode cX2_mostUrgent 8 = .ok (.aload_n 1, 1) := by decide +kernel
theorem dX2_mostUrgent_9 : decode cX2_mostUrgent 9 = .ok (.getfield 64, 3) := by decide +kernel
theorem dX2_mostUrgent_12 : decode cX2_mostUrgent 12 = .ok (.if_icmp .ge 62, 3) := by decide +kernel
theorem dX2_mostUrgent_15 : decode cX2_mostUrgent 15 = .ok (.aload_n 2, 1) := by decide +kernel
theorem dX2_mostUrgent_16 : decode cX2_mostUrgent 16 = .ok (.getfield 67, 3) := by decide +kernel
theorem dX2_mostUrgent_19 : decode cX2_mostUrgent 19 = .ok (.iload 5, 2) := by decide +kernel
theorem dX2_mostUrgent_21 : decode cX2_mostUrgent 21 = .ok (.iaload, 1) := by decide +kernel
theorem dX2_mostUrgent_22 : decode cX2_mostUrgent 22 = .ok (.iload_n 3, 1) := by decide +kernel
theorem dX2_mostUrgent_23 : decode cX2_mostUrgent 23 = .ok (.if_icmp .ne 45, 3) := by decide +kernel
theorem dX2_mostUrgent_26 : decode cX2_mostUrgent 26 = .ok (.aload_n 2, 1) := by decide +kernel
theorem dX2_mostUrgent_27 : decode cX2_mostUrgent 27 = .ok (.getfield 127, 3) := by decide +kernel
theorem dX2_mostUrgent_30 : decode cX2_mostUrgent 30 = .ok (.iload 5, 2) := by decide +kernel
theorem dX2_mostUrgent_32 : decode cX2_mostUrgent 32 = .ok (.iaload, 1) := by decide +kernel
theorem dX2_mostUrgent_33 : decode cX2_mostUrgent 33 = .ok (.ifCond .ne 6, 3) := by decide +kernel
theorem dX2_mostUrgent_36 : decode cX2_mostUrgent 36 = .ok (.goto 32, 3) := by decide +kernel
theorem dX2_mostUrgent_39 : decode cX2_mostUrgent 39 = .ok (.iload 4, 2) := by decide +kernel
theorem dX2_mostUrgent_41 : decode cX2_mostUrgent 41 = .ok (.iconst (-1), 1) := by decide +kernel
theorem dX2_mostUrgent_42 : decode cX2_mostUrgent 42 = .ok (.if_icmp .eq 22, 3) := by decide +kernel
theorem dX2_mostUrgent_45 : decode cX2_mostUrgent 45 = .ok (.aload_n 0, 1) := by decide +kernel
theorem dX2_mostUrgent_46 : decode cX2_mostUrgent 46 = .ok (.aload_n 1, 1) := by decide +kernel
theorem dX2_mostUrgent_47 : decode cX2_mostUrgent 47 = .ok (.aload_n 2, 1) := by decide +kernel
theorem dX2_mostUrgent_48 : decode cX2_mostUrgent 48 = .ok (.iload 5, 2) := by decide +kernel
theorem dX2_mostUrgent_50 : decode cX2_mostUrgent 50 = .ok (.invokevirtual 118, 3) := by decide +kernel
theorem dX2_mostUrgent_53 : decode cX2_mostUrgent 53 = .ok (.aload_n 0, 1) := by decide +kernel
theorem dX2_mostUrgent_54 : decode cX2_mostUrgent 54 = .ok (.aload_n 1, 1) := by decide +kernel
theorem dX2_mostUrgent_55 : decode cX2_mostUrgent 55 = .ok (.aload_n 2, 1) := by decide +kernel
theorem dX2_mostUrgent_56 : decode cX2_mostUrgent 56 = .ok (.iload 4, 2) := by decide +kernel
theorem dX2_mostUrgent_58 : decode cX2_mostUrgent 58 = .ok (.invokevirtual 118, 3) := by decide +kernel
theorem dX2_mostUrgent_61 : decode cX2_mostUrgent 61 = .ok (.if_icmp .ge 7, 3) := by decide +kernel
theorem dX2_mostUrgent_64 : decode cX2_mostUrgent 64 = .ok (.iload 5, 2) := by decide +kernel
theorem dX2_mostUrgent_66 : decode cX2_mostUrgent 66 = .ok (.istore 4, 2) := by decide +kernel
theorem dX2_mostUrgent_68 : decode cX2_mostUrgent 68 = .ok (.iinc 5 1, 3) := by decide +kernel
theorem dX2_mostUrgent_71 : decode cX2_mostUrgent 71 = .ok (.goto (-65), 3) := by decide +kernel
theorem dX2_mostUrgent_74 : decode cX2_mostUrgent 74 = .ok (.iload 4, 2) := by decide +kernel
theorem dX2_mostUrgent_76 : decode cX2_mostUrgent 76 = .ok (.ireturn, 1) := by decide +kernel
theorem dX2_rememberIdling_0 : decode cX2_rememberIdling 0 = .ok (.aload_n 2, 1) := by decide +kernel
theorem dX2_rememberIdling_1 : decode cX2_rememberIdling 1 = .ok (.getfield 184, 3) := by decide +kernel
theorem dX2_rememberIdling_4 : decode cX2_rememberIdling 4 = .ok (.iload_n 3, 1) := by decide +kernel
theorem dX2_rememberIdling_5 : decode cX2_rememberIdling 5 = .ok (.iload 4, 2) := by decide +kernel
theorem dX2_rememberIdling_7 : decode cX2_rememberIdling 7 = .ok (.ifCond .eq 14, 3) := by decide +kernel
theorem dX2_rememberIdling_10 : decode cX2_rememberIdling 10 = .ok (.aload_n 2, 1) := by decide +kernel
theorem dX2_rememberIdling_11 : decode cX2_rememberIdling 11 = .ok (.getfield 184, 3) := by decide +kernel
theorem dX2_rememberIdling_14 : decode cX2_rememberIdling 14 = .ok (.iload_n 3, 1) := by decide +kernel
theorem dX2_rememberIdling_15 : decode cX2_rememberIdling 15 = .ok (.iaload, 1) := by decide +kernel
theorem dX2_rememberIdling_16 : decode cX2_rememberIdling 16 = .ok (.iconst 1, 1) := by decide +kernel
theorem dX2_rememberIdling_17 : decode cX2_rememberIdling 17 = .ok (.iadd, 1) := by decide +kernel
theorem dX2_rememberIdling_18 : decode cX2_rememberIdling 18 = .ok (.goto 4, 3) := by decide +kernel
theorem dX2_rememberIdling_21 : decode cX2_rememberIdling 21 = .ok (.iconst 0, 1) := by decide +kernel
theorem dX2_rememberIdling_22 : decode cX2_rememberIdling 22 = .ok (.iastore, 1) := by decide +kernel
theorem dX2_rememberIdling_23 : decode cX2_rememberIdling 23 = .ok (.aload_n 2, 1) := by decide +kernel
theorem dX2_rememberIdling_24 : decode cX2_rememberIdling 24 = .ok (.getfield 184, 3) := by decide +kernel
theorem dX2_rememberIdling_27 : decode cX2_rememberIdling 27 = .ok (.iload_n 3, 1) := by decide +kernel
theorem dX2_rememberIdling_28 : decode cX2_rememberIdling 28 = .ok (.iaload, 1) := by decide +kernel
theorem dX2_rememberIdling_29 : decode cX2_rememberIdling 29 = .ok (.aload_n 1, 1) := by decide +kernel
theorem dX2_rememberIdling_30 : decode cX2_rememberIdling 30 = .ok (.getfield 54, 3) := by decide +kernel
theorem dX2_rememberIdling_33 : decode cX2_rememberIdling 33 = .ok (.iconst 2, 1) := by decide +kernel
theorem dX2_rememberIdling_34 : decode cX2_rememberIdling 34 = .ok (.iaload, 1) := by decide +kernel
theorem dX2_rememberIdling_35 : decode cX2_rememberIdling 35 = .ok (.if_icmp .lt 16, 3) := by decide +kernel
theorem dX2_rememberIdling_38 : decode cX2_rememberIdling 38 = .ok (.aload_n 2, 1) := by decide +kernel
theorem dX2_rememberIdling_39 : decode cX2_rememberIdling 39 = .ok (.aload_n 2, 1) := by decide +kernel
theorem dX2_rememberIdling_40 : decode cX2_rememberIdling 40 = .ok (.getfield 138, 3) := by decide +kernel
theorem dX2_rememberIdling_43 : decode cX2_rememberIdling 43 = .ok (.iload_n 3, 1) := by decide +kernel
theorem dX2_rememberIdling_44 : decode cX2_rememberIdling 44 = .ok (.iconst 1, 1) := by decide +kernel
theorem dX2_rememberIdling_45 : decode cX2_rememberIdling 45 = .ok (.invokestatic 141, 3) := by decide +kernel
theorem dX2_rememberIdling_48 : decode cX2_rememberIdling 48 = .ok (.putfield 138, 3) := by decide +kernel
theorem dX2_rememberIdling_51 : decode cX2_rememberIdling 51 = .ok (.return_, 1) := by decide +kernel
theorem dX2_fadeLoads_0 : decode cX2_fadeLoads 0 = .ok (.iconst 0, 1) := by decide +kernel
theorem dX2_fadeLoads_1 : decode cX2_fadeLoads 1 = .ok (.istore_n 3, 1) := by decide +kernel
theorem dX2_fadeLoads_2 : decode cX2_fadeLoads 2 = .ok (.iload_n 3, 1) := by decide +kernel
theorem dX2_fadeLoads_3 : decode cX2_fadeLoads 3 = .ok (.aload_n 1, 1) := by decide +kernel
theorem dX2_fadeLoads_4 : decode cX2_fadeLoads 4 = .ok (.getfield 64, 3) := by decide +kernel
theorem dX2_fadeLoads_7 : decode cX2_fadeLoads 7 = .ok (.if_icmp .ge 45, 3) := by decide +kernel
theorem dX2_fadeLoads_10 : decode cX2_fadeLoads 10 = .ok (.aload_n 2, 1) := by decide +kernel
theorem dX2_fadeLoads_11 : decode cX2_fadeLoads 11 = .ok (.getfield 70, 3) := by decide +kernel
theorem dX2_fadeLoads_14 : decode cX2_fadeLoads 14 = .ok (.iload_n 3, 1) := by decide +kernel
theorem dX2_fadeLoads_15 : decode cX2_fadeLoads 15 = .ok (.bipush 7, 2) := by decide +kernel
theorem dX2_fadeLoads_17 : decode cX2_fadeLoads 17 = .ok (.aload_n 2, 1) := by decide +kernel
theorem dX2_fadeLoads_18 : decode cX2_fadeLoads 18 = .ok (.getfield 70, 3) := by decide +kernel
theorem dX2_fadeLoads_21 : decode cX2_fadeLoads 21 = .ok (.iload_n 3, 1) := by decide +kernel
theorem dX2_fadeLoads_22 : decode cX2_fadeLoads 22 = .ok (.iaload, 1) := by decide +kernel
theorem dX2_fadeLoads_23 : decode cX2_fadeLoads 23 = .ok (.imul, 1) := by decide +kernel
theorem dX2_fadeLoads_24 : decode cX2_fadeLoads 24 = .ok (.aload_n 0, 1) := by decide +kernel
theorem dX2_fadeLoads_25 : decode cX2_fadeLoads 25 = .ok (.getfield 9, 3) := by decide +kernel
theorem dX2_fadeLoads_28 : decode cX2_fadeLoads 28 = .ok (.iload_n 3, 1) := by decide +kernel
theorem dX2_fadeLoads_29 : decode cX2_fadeLoads 29 = .ok (.iaload, 1) := by decide +kernel
theorem dX2_fadeLoads_30 : decode cX2_fadeLoads 30 = .ok (.sipush 1024, 3) := by decide +kernel
theorem dX2_fadeLoads_33 : decode cX2_fadeLoads 33 = .ok (.imul, 1) := by decide +kernel
theorem dX2_fadeLoads_34 : decode cX2_fadeLoads 34 = .ok (.aload_n 1, 1) := by decide +kernel
theorem dX2_fadeLoads_35 : decode cX2_fadeLoads 35 = .ok (.getfield 81, 3) := by decide +kernel
theorem dX2_fadeLoads_38 : decode cX2_fadeLoads 38 = .ok (.invokestatic 57, 3) := by decide +kernel
theorem dX2_fadeLoads_41 : decode cX2_fadeLoads 41 = .ok (.iadd, 1) := by decide +kernel
theorem dX2_fadeLoads_42 : decode cX2_fadeLoads 42 = .ok (.bipush 8, 2) := by decide +kernel
theorem dX2_fadeLoads_44 : decode cX2_fadeLoads 44 = .ok (.idiv, 1) := by decide +kernel
theorem dX2_fadeLoads_45 : decode cX2_fadeLoads 45 = .ok (.iastore, 1) := by decide +kernel
theorem dX2_fadeLoads_46 : decode cX2_fadeLoads 46 = .ok (.iinc 3 1, 3) := by decide +kernel
theorem dX2_fadeLoads_49 : decode cX2_fadeLoads 49 = .ok (.goto (-47), 3) := by decide +kernel
theorem dX2_fadeLoads_52 : decode cX2_fadeLoads 52 = .ok (.return_, 1) := by decide +kernel
theorem dX3_init_0 : decode cX3_init 0 = .ok (.aload_n 0, 1) := by decide +kernel
theorem dX3_init_1 : decode cX3_init 1 = .ok (.invokespecial 3, 3) := by decide +kernel
theorem dX3_init_4 : decode cX3_init 4 = .ok (.aload_n 0, 1) := by decide +kernel
theorem dX3_init_5 : decode cX3_init 5 = .ok (.bipush 40, 2) := by decide +kernel
theorem dX3_init_7 : decode cX3_init 7 = .ok (.anewarray 9, 3) := by decide +kernel
theorem dX3_init_10 : decode cX3_init 10 = .ok (.putfield 11, 3) := by decide +kernel
theorem dX3_init_13 : decode cX3_init 13 = .ok (.iconst 0, 1) := by decide +kernel
theorem dX3_init_14 : decode cX3_init 14 = .ok (.istore_n 1, 1) := by decide +kernel
theorem dX3_init_15 : decode cX3_init 15 = .ok (.iload_n 1, 1) := by decide +kernel
theorem dX3_init_16 : decode cX3_init 16 = .ok (.aload_n 0, 1) := by decide +kernel
theorem dX3_init_17 : decode cX3_init 17 = .ok (.getfield 11, 3) := by decide +kernel
theorem dX3_init_20 : decode cX3_init 20 = .ok (.arraylength, 1) := by decide +kernel
theorem dX3_init_21 : decode cX3_init 21 = .ok (.if_icmp .ge 22, 3) := by decide +kernel
theorem dX3_init_24 : decode cX3_init 24 = .ok (.aload_n 0, 1) := by decide +kernel
theorem dX3_init_25 : decode cX3_init 25 = .ok (.getfield 11, 3) := by decide +kernel
theorem dX3_init_28 : decode cX3_init 28 = .ok (.iload_n 1, 1) := by decide +kernel
theorem dX3_init_29 : decode cX3_init 29 = .ok (.new 9, 3) := by decide +kernel
theorem dX3_init_32 : decode cX3_init 32 = .ok (.dup, 1) := by decide +kernel
theorem dX3_init_33 : decode cX3_init 33 = .ok (.invokespecial 17, 3) := by decide +kernel
theorem dX3_init_36 : decode cX3_init 36 = .ok (.aastore, 1) := by decide +kernel
theorem dX3_init_37 : decode cX3_init 37 = .ok (.iinc 1 1, 3) := by decide +kernel
theorem dX3_init_40 : decode cX3_init 40 = .ok (.goto (-25), 3) := by decide +kernel
theorem dX3_init_43 : decode cX3_init 43 = .ok (.return_, 1) := by decide +kernel
theorem dX3_keep_0 : decode cX3_keep 0 = .ok (.aload_n 0, 1) := by decide +kernel
theorem dX3_keep_1 : decode cX3_keep 1 = .ok (.getfield 11, 3) := by decide +kernel
theorem dX3_keep_4 : decode cX3_keep 4 = .ok (.aload_n 0, 1) := by decide +kernel
theorem dX3_keep_5 : decode cX3_keep 5 = .ok (.getfield 18, 3) := by decide +kernel
theorem dX3_keep_8 : decode cX3_keep 8 = .ok (.aaload, 1) := by decide +kernel
theorem dX3_keep_9 : decode cX3_keep 9 = .ok (.aload_n 1, 1) := by decide +kernel
theorem dX3_keep_10 : decode cX3_keep 10 = .ok (.invokevirtual 22, 3) := by decide +kernel
theorem dX3_keep_13 : decode cX3_keep 13 = .ok (.aload_n 0, 1) := by decide +kernel
theorem dX3_keep_14 : decode cX3_keep 14 = .ok (.aload_n 0, 1) := by decide +kernel
theorem dX3_keep_15 : decode cX3_keep 15 = .ok (.getfield 18, 3) := by decide +kernel
theorem dX3_keep_18 : decode cX3_keep 18 = .ok (.iconst 1, 1) := by decide +kernel
theorem dX3_keep_19 : decode cX3_keep 19 = .ok (.iadd, 1) := by decide +kernel
theorem dX3_keep_20 : decode cX3_keep 20 = .ok (.bipush 40, 2) := by decide +kernel
theorem dX3_keep_22 : decode cX3_keep 22 = .ok (.if_icmp .ge 12, 3) := by decide +kernel
theorem dX3_keep_25 : decode cX3_keep 25 = .ok (.aload_n 0, 1) := by decide +kernel
theorem dX3_keep_26 : decode cX3_keep 26 = .ok (.getfield 18, 3) := by decide +kernel
theorem dX3_keep_29 : decode cX3_keep 29 = .ok (.iconst 1, 1) := by decide +kernel
theorem dX3_keep_30 : decode cX3_keep 30 = .ok (.iadd, 1) := by decide +kernel
theorem dX3_keep_31 : decode cX3_keep 31 = .ok (.goto 4, 3) := by decide +kernel
theorem dX3_keep_34 : decode cX3_keep 34 = .ok (.iconst 0, 1) := by decide +kernel
theorem dX3_keep_35 : decode cX3_keep 35 = .ok (.putfield 18, 3) := by decide +kernel
theorem dX3_keep_38 : decode cX3_keep 38 = .ok (.aload_n 0, 1) := by decide +kernel
theorem dX3_keep_39 : decode cX3_keep 39 = .ok (.aload_n 0, 1) := by decide +kernel
theorem dX3_keep_40 : decode cX3_keep 40 = .ok (.getfield 26, 3) := by decide +kernel
theorem dX3_keep_43 : decode cX3_keep 43 = .ok (.iconst 1, 1) := by decide +kernel
theorem dX3_keep_44 : decode cX3_keep 44 = .ok (.iadd, 1) := by decide +kernel
theorem dX3_keep_45 : decode cX3_keep 45 = .ok (.bipush 40, 2) := by decide +kernel
theorem dX3_keep_47 : decode cX3_keep 47 = .ok (.invokestatic 29, 3) := by decide +kernel
theorem dX3_keep_50 : decode cX3_keep 50 = .ok (.putfield 26, 3) := by decide +kernel
theorem dX3_keep_53 : decode cX3_keep 53 = .ok (.return_, 1) := by decide +kernel
theorem dX3_giveBack_0 : decode cX3_giveBack 0 = .ok (.aload_n 0, 1) := by decide +kernel
theorem dX3_giveBack_1 : decode cX3_giveBack 1 = .ok (.getfield 26, 3) := by decide +kernel
theorem dX3_giveBack_4 : decode cX3_giveBack 4 = .ok (.ifCond .ne 5, 3) := by decide +kernel
theorem dX3_giveBack_7 : decode cX3_giveBack 7 = .ok (.iconst 0, 1) := by decide +kernel
theorem dX3_giveBack_8 : decode cX3_giveBack 8 = .ok (.ireturn, 1) := by decide +kernel
theorem dX3_giveBack_9 : decode cX3_giveBack 9 = .ok (.aload_n 0, 1) := by decide +kernel
theorem dX3_giveBack_10 : decode cX3_giveBack 10 = .ok (.aload_n 0, 1) := by decide +kernel
theorem dX3_giveBack_11 : decode cX3_giveBack 11 = .ok (.getfield 18, 3) := by decide +kernel
theorem dX3_giveBack_14 : decode cX3_giveBack 14 = .ok (.ifCond .le 12, 3) := by decide +kernel
theorem dX3_giveBack_17 : decode cX3_giveBack 17 = .ok (.aload_n 0, 1) := by decide +kernel
theorem dX3_giveBack_18 : decode cX3_giveBack 18 = .ok (.getfield 18, 3) := by decide +kernel
theorem dX3_giveBack_21 : decode cX3_giveBack 21 = .ok (.iconst 1, 1) := by decide +kernel
theorem dX3_giveBack_22 : decode cX3_giveBack 22 = .ok (.isub, 1) := by decide +kernel
theorem dX3_giveBack_23 : decode cX3_giveBack 23 = .ok (.goto 5, 3) := by decide +kernel
theorem dX3_giveBack_26 : decode cX3_giveBack 26 = .ok (.bipush 39, 2) := by decide +kernel
theorem dX3_giveBack_28 : decode cX3_giveBack 28 = .ok (.putfield 18, 3) := by decide +kernel
theorem dX3_giveBack_31 : decode cX3_giveBack 31 = .ok (.aload_n 0, 1) := by decide +kernel
theorem dX3_giveBack_32 : decode cX3_giveBack 32 = .ok (.dup, 1) := by decide +kernel
theorem dX3_giveBack_33 : decode cX3_giveBack 33 = .ok (.getfield 26, 3) := by decide +kernel
theorem dX3_giveBack_36 : decode cX3_giveBack 36 = .ok (.iconst 1, 1) := by decide +kernel
theorem dX3_giveBack_37 : decode cX3_giveBack 37 = .ok (.isub, 1) := by decide +kernel
theorem dX3_giveBack_38 : decode cX3_giveBack 38 = .ok (.putfield 26, 3) := by decide +kernel
theorem dX3_giveBack_41 : decode cX3_giveBack 41 = .ok (.aload_n 1, 1) := by decide +kernel
theorem dX3_giveBack_42 : decode cX3_giveBack 42 = .ok (.aload_n 0, 1) := by decide +kernel
theorem dX3_giveBack_43 : decode cX3_giveBack 43 = .ok (.getfield 11, 3) := by decide +kernel
theorem dX3_giveBack_46 : decode cX3_giveBack 46 = .ok (.aload_n 0, 1) := by decide +kernel
theorem dX3_giveBack_47 : decode cX3_giveBack 47 = .ok (.getfield 18, 3) := by decide +kernel
theorem dX3_giveBack_50 : decode cX3_giveBack 50 = .ok (.aaload, 1) := by decide +kernel
theorem dX3_giveBack_51 : decode cX3_giveBack 51 = .ok (.invokevirtual 22, 3) := by decide +kernel
theorem dX3_giveBack_54 : decode cX3_giveBack 54 = .ok (.iconst 1, 1) := by decide +kernel
theorem dX3_giveBack_55 : decode cX3_giveBack 55 = .ok (.ireturn, 1) := by decide +kernel
theorem dX3_forget_0 : decode cX3_forget 0 = .ok (.aload_n 0, 1) := by decide +kernel
theorem dX3_forget_1 : decode cX3_forget 1 = .ok (.iconst 0, 1) := by decide +kernel
theorem dX3_forget_2 : decode cX3_forget 2 = .ok (.putfield 26, 3) := by decide +kernel
theorem dX3_forget_5 : decode cX3_forget 5 = .ok (.return_, 1) := by decide +kernel
theorem dX4_init_0 : decode cX4_init 0 = .ok (.aload_n 0, 1) := by decide +kernel
theorem dX4_init_1 : decode cX4_init 1 = .ok (.invokespecial 3, 3) := by decide +kernel
theorem dX4_init_4 : decode cX4_init 4 = .ok (.aload_n 0, 1) := by decide +kernel
theorem dX4_init_5 : decode cX4_init 5 = .ok (.bipush 100, 2) := by decide +kernel
theorem dX4_init_7 : decode cX4_init 7 = .ok (.newarray .int, 2) := by decide +kernel
theorem dX4_init_9 : decode cX4_init 9 = .ok (.putfield 9, 3) := by decide +kernel
theorem dX4_init_12 : decode cX4_init 12 = .ok (.aload_n 0, 1) := by decide +kernel
theorem dX4_init_13 : decode cX4_init 13 = .ok (.bipush 100, 2) := by decide +kernel
theorem dX4_init_15 : decode cX4_init 15 = .ok (.newarray .int, 2) := by decide +kernel
theorem dX4_init_17 : decode cX4_init 17 = .ok (.putfield 15, 3) := by decide +kernel
theorem dX4_init_20 : decode cX4_init 20 = .ok (.aload_n 0, 1) := by decide +kernel
theorem dX4_init_21 : decode cX4_init 21 = .ok (.bipush 100, 2) := by decide +kernel
theorem dX4_init_23 : decode cX4_init 23 = .ok (.newarray .int, 2) := by decide +kernel
theorem dX4_init_25 : decode cX4_init 25 = .ok (.putfield 18, 3) := by decide +kernel
theorem dX4_init_28 : decode cX4_init 28 = .ok (.return_, 1) := by decide +kernel
theorem dX4_write_0 : decode cX4_write 0 = .ok (.iload_n 1, 1) := by decide +kernel
theorem dX4_write_1 : decode cX4_write 1 = .ok (.bipush 100, 2) := by decide +kernel
theorem dX4_write_3 : decode cX4_write 3 = .ok (.invokestatic 21, 3) := by decide +kernel
theorem dX4_write_6 : decode cX4_write 6 = .ok (.istore 5, 2) := by decide +kernel
theorem dX4_write_8 : decode cX4_write 8 = .ok (.aload_n 0, 1) := by decide +kernel
theorem dX4_write_9 : decode cX4_write 9 = .ok (.getfield 9, 3) := by decide +kernel
theorem dX4_write_12 : decode cX4_write 12 = .ok (.iload 5, 2) := by decide +kernel
theorem dX4_write_14 : decode cX4_write 14 = .ok (.iload_n 2, 1) := by decide +kernel
theorem dX4_write_15 : decode cX4_write 15 = .ok (.iastore, 1) := by decide +kernel
theorem dX4_write_16 : decode cX4_write 16 = .ok (.aload_n 0, 1) := by decide +kernel
theorem dX4_write_17 : decode cX4_write 17 = .ok (.getfield 15, 3) := by decide +kernel
theorem dX4_write_20 : decode cX4_write 20 = .ok (.iload 5, 2) := by decide +kernel
theorem dX4_write_22 : decode cX4_write 22 = .ok (.iload_n 3, 1) := by decide +kernel
theorem dX4_write_23 : decode cX4_write 23 = .ok (.iastore, 1) := by decide +kernel
theorem dX4_write_24 : decode cX4_write 24 = .ok (.aload_n 0, 1) := by decide +kernel
theorem dX4_write_25 : decode cX4_write 25 = .ok (.getfield 18, 3) := by decide +kernel
theorem dX4_write_28 : decode cX4_write 28 = .ok (.iload 5, 2) := by decide +kernel
theorem dX4_write_30 : decode cX4_write 30 = .ok (.iload 4, 2) := by decide +kernel
theorem dX4_write_32 : decode cX4_write 32 = .ok (.iastore, 1) := by decide +kernel
theorem dX4_write_33 : decode cX4_write 33 = .ok (.return_, 1) := by decide +kernel
theorem dX4_read_0 : decode cX4_read 0 = .ok (.iload_n 1, 1) := by decide +kernel
theorem dX4_read_1 : decode cX4_read 1 = .ok (.bipush 100, 2) := by decide +kernel
theorem dX4_read_3 : decode cX4_read 3 = .ok (.invokestatic 21, 3) := by decide +kernel
theorem dX4_read_6 : decode cX4_read 6 = .ok (.istore_n 3, 1) := by decide +kernel
theorem dX4_read_7 : decode cX4_read 7 = .ok (.iload_n 2, 1) := by decide +kernel
theorem dX4_read_8 : decode cX4_read 8 = .ok (.tableswitch 49 0 2 #[28, 35, 42], 28) := by decide +kernel
theorem dX4_read_36 : decode cX4_read 36 = .ok (.aload_n 0, 1) := by decide +kernel
theorem dX4_read_37 : decode cX4_read 37 = .ok (.getfield 9, 3) := by decide +kernel
theorem dX4_read_40 : decode cX4_read 40 = .ok (.iload_n 3, 1) := by decide +kernel
theorem dX4_read_41 : decode cX4_read 41 = .ok (.iaload, 1) := by decide +kernel
theorem dX4_read_42 : decode cX4_read 42 = .ok (.ireturn, 1) := by decide +kernel
theorem dX4_read_43 : decode cX4_read 43 = .ok (.aload_n 0, 1) := by decide +kernel
theorem dX4_read_44 : decode cX4_read 44 = .ok (.getfield 15, 3) := by decide +kernel
theorem dX4_read_47 : decode cX4_read 47 = .ok (.iload_n 3, 1) := by decide +kernel
theorem dX4_read_48 : decode cX4_read 48 = .ok (.iaload, 1) := by decide +kernel
theorem dX4_read_49 : decode cX4_read 49 = .ok (.ireturn, 1) := by decide +kernel
theorem dX4_read_50 : decode cX4_read 50 = .ok (.aload_n 0, 1) := by decide +kernel
theorem dX4_read_51 : decode cX4_read 51 = .ok (.getfield 18, 3) := by decide +kernel
theorem dX4_read_54 : decode cX4_read 54 = .ok (.iload_n 3, 1) := by decide +kernel
theorem dX4_read_55 : decode cX4_read 55 = .ok (.iaload, 1) := by decide +kernel
theorem dX4_read_56 : decode cX4_read 56 = .ok (.ireturn, 1) := by decide +kernel
theorem dX4_read_57 : decode cX4_read 57 = .ok (.ldc 27, 2) := by decide +kernel
theorem dX4_read_59 : decode cX4_read 59 = .ok (.ireturn, 1) := by decide +kernel
theorem dX4_copyFrom_0 : decode cX4_copyFrom 0 = .ok (.aload_n 1, 1) := by decide +kernel
theorem dX4_copyFrom_1 : decode cX4_copyFrom 1 = .ok (.getfield 9, 3) := by decide +kernel
theorem dX4_copyFrom_4 : decode cX4_copyFrom 4 = .ok (.iconst 0, 1) := by decide +kernel
theorem dX4_copyFrom_5 : decode cX4_copyFrom 5 = .ok (.aload_n 0, 1) := by decide +kernel
theorem dX4_copyFrom_6 : decode cX4_copyFrom 6 = .ok (.getfield 9, 3) := by decide +kernel
theorem dX4_copyFrom_9 : decode cX4_copyFrom 9 = .ok (.iconst 0, 1) := by decide +kernel
theorem dX4_copyFrom_10 : decode cX4_copyFrom 10 = .ok (.bipush 100, 2) := by decide +kernel
theorem dX4_copyFrom_12 : decode cX4_copyFrom 12 = .ok (.invokestatic 28, 3) := by decide +kernel
theorem dX4_copyFrom_15 : decode cX4_copyFrom 15 = .ok (.aload_n 1, 1) := by decide +kernel
theorem dX4_copyFrom_16 : decode cX4_copyFrom 16 = .ok (.getfield 15, 3) := by decide +kernel
theorem dX4_copyFrom_19 : decode cX4_copyFrom 19 = .ok (.iconst 0, 1) := by decide +kernel
theorem dX4_copyFrom_20 : decode cX4_copyFrom 20 = .ok (.aload_n 0, 1) := by decide +kernel
theorem dX4_copyFrom_21 : decode cX4_copyFrom 21 = .ok (.getfield 15, 3) := by decide +kernel
theorem dX4_copyFrom_24 : decode cX4_copyFrom 24 = .ok (.iconst 0, 1) := by decide +kernel
theorem dX4_copyFrom_25 : decode cX4_copyFrom 25 = .ok (.bipush 100, 2) := by decide +kernel
theorem dX4_copyFrom_27 : decode cX4_copyFrom 27 = .ok (.invokestatic 28, 3) := by decide +kernel
theorem dX4_copyFrom_30 : decode cX4_copyFrom 30 = .ok (.aload_n 1, 1) := by decide +kernel
theorem dX4_copyFrom_31 : decode cX4_copyFrom 31 = .ok (.getfield 18, 3) := by decide +kernel
theorem dX4_copyFrom_34 : decode cX4_copyFrom 34 = .ok (.iconst 0, 1) := by decide +kernel
theorem dX4_copyFrom_35 : decode cX4_copyFrom 35 = .ok (.aload_n 0, 1) := by decide +kernel
theorem dX4_copyFrom_36 : decode cX4_copyFrom 36 = .ok (.getfield 18, 3) := by decide +kernel
theorem dX4_copyFrom_39 : decode cX4_copyFrom 39 = .ok (.iconst 0, 1) := by decide +kernel
theorem dX4_copyFrom_40 : decode cX4_copyFrom 40 = .ok (.bipush 100, 2) := by decide +kernel
theorem dX4_copyFrom_42 : decode cX4_copyFrom 42 = .ok (.invokestatic 28, 3) := by decide +kernel
theorem dX4_copyFrom_45 : decode cX4_copyFrom 45 = .ok (.return_, 1) := by decide +kernel
theorem dX5_init_0 : decode cX5_init 0 = .ok (.aload_n 0, 1) := by decide +kernel
theorem dX5_init_1 : decode cX5_init 1 = .ok (.invokespecial 3, 3) := by decide +kernel
theorem dX5_init_4 : decode cX5_init 4 = .ok (.aload_n 0, 1) := by decide +kernel
theorem dX5_init_5 : decode cX5_init 5 = .ok (.iconst 4, 1) := by decide +kernel
theorem dX5_init_6 : decode cX5_init 6 = .ok (.newarray .int, 2) := by decide +kernel
theorem dX5_init_8 : decode cX5_init 8 = .ok (.putfield 9, 3) := by decide +kernel
theorem dX5_init_11 : decode cX5_init 11 = .ok (.aload_n 0, 1) := by decide +kernel
theorem dX5_init_12 : decode cX5_init 12 = .ok (.iconst 4, 1) := by decide +kernel
theorem dX5_init_13 : decode cX5_init 13 = .ok (.newarray .int, 2) := by decide +kernel
theorem dX5_init_15 : decode cX5_init 15 = .ok (.putfield 15, 3) := by decide +kernel
theorem dX5_init_18 : decode cX5_init 18 = .ok (.aload_n 0, 1) := by decide +kernel
theorem dX5_init_19 : decode cX5_init 19 = .ok (.iconst 4, 1) := by decide +kernel
theorem dX5_init_20 : decode cX5_init 20 = .ok (.newarray .int, 2) := by decide +kernel
theorem dX5_init_22 : decode cX5_init 22 = .ok (.putfield 18, 3) := by decide +kernel
theorem dX5_init_25 : decode cX5_init 25 = .ok (.aload_n 0, 1) := by decide +kernel
theorem dX5_init_26 : decode cX5_init 26 = .ok (.iconst 3, 1) := by decide +kernel
theorem dX5_init_27 : decode cX5_init 27 = .ok (.newarray .int, 2) := by decide +kernel
theorem dX5_init_29 : decode cX5_init 29 = .ok (.putfield 21, 3) := by decide +kernel
theorem dX5_init_32 : decode cX5_init 32 = .ok (.aload_n 0, 1) := by decide +kernel
theorem dX5_init_33 : decode cX5_init 33 = .ok (.iconst 3, 1) := by decide +kernel
theorem dX5_init_34 : decode cX5_init 34 = .ok (.newarray .int, 2) := by decide +kernel
theorem dX5_init_36 : decode cX5_init 36 = .ok (.putfield 24, 3) := by decide +kernel
theorem dX5_init_39 : decode cX5_init 39 = .ok (.aload_n 0, 1) := by decide +kernel
theorem dX5_init_40 : decode cX5_init 40 = .ok (.bipush 6, 2) := by decide +kernel
theorem dX5_init_42 : decode cX5_init 42 = .ok (.newarray .int, 2) := by decide +kernel
theorem dX5_init_44 : decode cX5_init 44 = .ok (.putfield 27, 3) := by decide +kernel
theorem dX5_init_47 : decode cX5_init 47 = .ok (.aload_n 0, 1) := by decide +kernel
theorem dX5_init_48 : decode cX5_init 48 = .ok (.sipush 1296, 3) := by decide +kernel
theorem dX5_init_51 : decode cX5_init 51 = .ok (.newarray .int, 2) := by decide +kernel
theorem dX5_init_53 : decode cX5_init 53 = .ok (.putfield 30, 3) := by decide +kernel
theorem dX5_init_56 : decode cX5_init 56 = .ok (.aload_n 0, 1) := by decide +kernel
theorem dX5_init_57 : decode cX5_init 57 = .ok (.sipush 1296, 3) := by decide +kernel
theorem dX5_init_60 : decode cX5_init 60 = .ok (.newarray .int, 2) := by decide +kernel
theorem dX5_init_62 : decode cX5_init 62 = .ok (.putfield 33, 3) := by decide +kernel
theorem dX5_init_65 : decode cX5_init 65 = .ok (.aload_n 0, 1) := by decide +kernel
theorem dX5_init_66 : decode cX5_init 66 = .ok (.sipush 1296, 3) := by decide +kernel
theorem dX5_init_69 : decode cX5_init 69 = .ok (.newarray .int, 2) := by decide +kernel
theorem dX5_init_71 : decode cX5_init 71 = .ok (.putfield 36, 3) := by decide +kernel
theorem dX5_init_74 : decode cX5_init 74 = .ok (.return_, 1) := by decide +kernel
theorem dX5_priceAsItIs_0 : decode cX5_priceAsItIs 0 = .ok (.aload_n 0, 1) := by decide +kernel
theorem dX5_priceAsItIs_1 : decode cX5_priceAsItIs 1 = .ok (.aload_n 1, 1) := by decide +kernel
theorem dX5_priceAsItIs_2 : decode cX5_priceAsItIs 2 = .ok (.aload_n 2, 1) := by decide +kernel
theorem dX5_priceAsItIs_3 : decode cX5_priceAsItIs 3 = .ok (.invokevirtual 39, 3) := by decide +kernel
theorem dX5_priceAsItIs_6 : decode cX5_priceAsItIs 6 = .ok (.aload_n 2, 1) := by decide +kernel
theorem dX5_priceAsItIs_7 : decode cX5_priceAsItIs 7 = .ok (.getfield 43, 3) := by decide +kernel
theorem dX5_priceAsItIs_10 : decode cX5_priceAsItIs 10 = .ok (.iconst 0, 1) := by decide +kernel
theorem dX5_priceAsItIs_11 : decode cX5_priceAsItIs 11 = .ok (.aload_n 0, 1) := by decide +kernel
theorem dX5_priceAsItIs_12 : decode cX5_priceAsItIs 12 = .ok (.getfield 9, 3) := by decide +kernel
theorem dX5_priceAsItIs_15 : decode cX5_priceAsItIs 15 = .ok (.iconst 0, 1) := by decide +kernel
theorem dX5_priceAsItIs_16 : decode cX5_priceAsItIs 16 = .ok (.iconst 4, 1) := by decide +kernel
theorem dX5_priceAsItIs_17 : decode cX5_priceAsItIs 17 = .ok (.invokestatic 48, 3) := by decide +kernel
theorem dX5_priceAsItIs_20 : decode cX5_priceAsItIs 20 = .ok (.aload_n 0, 1) := by decide +kernel
theorem dX5_priceAsItIs_21 : decode cX5_priceAsItIs 21 = .ok (.aload_n 1, 1) := by decide +kernel
theorem dX5_priceAsItIs_22 : decode cX5_priceAsItIs 22 = .ok (.invokevirtual 54, 3) := by decide +kernel
theorem dX5_priceAsItIs_25 : decode cX5_priceAsItIs 25 = .ok (.ireturn, 1) := by decide +kernel
theorem dX5_findBest_0 : decode cX5_findBest 0 = .ok (.aload_n 0, 1) := by decide +kernel
theorem dX5_findBest_1 : decode cX5_findBest 1 = .ok (.aload_n 1, 1) := by decide +kernel
theorem dX5_findBest_2 : decode cX5_findBest 2 = .ok (.aload_n 2, 1) := by decide +kernel
theorem dX5_findBest_3 : decode cX5_findBest 3 = .ok (.invokevirtual 39, 3) := by decide +kernel
theorem dX5_findBest_6 : decode cX5_findBest 6 = .ok (.aload_n 0, 1) := by decide +kernel
theorem dX5_findBest_7 : decode cX5_findBest 7 = .ok (.iconst (-1), 1) := by decide +kernel
theorem dX5_findBest_8 : decode cX5_findBest 8 = .ok (.putfield 58, 3) := by decide +kernel
theorem dX5_findBest_11 : decode cX5_findBest 11 = .ok (.aload_n 0, 1) := by decide +kernel
theorem dX5_findBest_12 : decode cX5_findBest 12 = .ok (.aload_n 1, 1) := by decide +kernel
theorem dX5_findBest_13 : decode cX5_findBest 13 = .ok (.invokevirtual 62, 3) := by decide +kernel
theorem dX5_findBest_16 : decode cX5_findBest 16 = .ok (.istore_n 3, 1) := by decide +kernel
theorem dX5_findBest_17 : decode cX5_findBest 17 = .ok (.iconst 0, 1) := by decide +kernel
theorem dX5_findBest_18 : decode cX5_findBest 18 = .ok (.istore 4, 2) := by decide +kernel
theorem dX5_findBest_20 : decode cX5_findBest 20 = .ok (.iload 4, 2) := by decide +kernel
theorem dX5_findBest_22 : decode cX5_findBest 22 = .ok (.iload_n 3, 1) := by decide +kernel
theorem dX5_findBest_23 : decode cX5_findBest 23 = .ok (.if_icmp .ge 75, 3) := by decide +kernel
theorem dX5_findBest_26 : decode cX5_findBest 26 = .ok (.aload_n 0, 1) := by decide +kernel
theorem dX5_findBest_27 : decode cX5_findBest 27 = .ok (.aload_n 1, 1) := by decide +kernel
theorem dX5_findBest_28 : decode cX5_findBest 28 = .ok (.iload 4, 2) := by decide +kernel
theorem dX5_findBest_30 : decode cX5_findBest 30 = .ok (.invokevirtual 65, 3) := by decide +kernel
theorem dX5_findBest_33 : decode cX5_findBest 33 = .ok (.aload_n 0, 1) := by decide +kernel
theorem dX5_findBest_34 : decode cX5_findBest 34 = .ok (.aload_n 1, 1) := by decide +kernel
theorem dX5_findBest_35 : decode cX5_findBest 35 = .ok (.invokevirtual 54, 3) := by decide +kernel
theorem dX5_findBest_38 : decode cX5_findBest 38 = .ok (.istore 5, 2) := by decide +kernel
theorem dX5_findBest_40 : decode cX5_findBest 40 = .ok (.aload_n 0, 1) := by decide +kernel
theorem dX5_findBest_41 : decode cX5_findBest 41 = .ok (.getfield 30, 3) := by decide +kernel
theorem dX5_findBest_44 : decode cX5_findBest 44 = .ok (.iload 4, 2) := by decide +kernel
theorem dX5_findBest_46 : decode cX5_findBest 46 = .ok (.iload 5, 2) := by decide +kernel
theorem dX5_findBest_48 : decode cX5_findBest 48 = .ok (.iastore, 1) := by decide +kernel
theorem dX5_findBest_49 : decode cX5_findBest 49 = .ok (.iload 5, 2) := by decide +kernel
theorem dX5_findBest_51 : decode cX5_findBest 51 = .ok (.iconst (-1), 1) := by decide +kernel
theorem dX5_findBest_52 : decode cX5_findBest 52 = .ok (.if_icmp .eq 40, 3) := by decide +kernel
theorem dX5_findBest_55 : decode cX5_findBest 55 = .ok (.aload_n 0, 1) := by decide +kernel
theorem dX5_findBest_56 : decode cX5_findBest 56 = .ok (.getfield 58, 3) := by decide +kernel
theorem dX5_findBest_59 : decode cX5_findBest 59 = .ok (.iconst (-1), 1) := by decide +kernel
theorem dX5_findBest_60 : decode cX5_findBest 60 = .ok (.if_icmp .eq 12, 3) := by decide +kernel
theorem dX5_findBest_63 : decode cX5_findBest 63 = .ok (.iload 5, 2) := by decide +kernel
theorem dX5_findBest_65 : decode cX5_findBest 65 = .ok (.aload_n 0, 1) := by decide +kernel
theorem dX5_findBest_66 : decode cX5_findBest 66 = .ok (.getfield 58, 3) := by decide +kernel
theorem dX5_findBest_69 : decode cX5_findBest 69 = .ok (.if_icmp .ge 23, 3) := by decide +kernel
theorem dX5_findBest_72 : decode cX5_findBest 72 = .ok (.aload_n 0, 1) := by decide +kernel
theorem dX5_findBest_73 : decode cX5_findBest 73 = .ok (.iload 5, 2) := by decide +kernel
theorem dX5_findBest_75 : decode cX5_findBest 75 = .ok (.putfield 58, 3) := by decide +kernel
theorem dX5_findBest_78 : decode cX5_findBest 78 = .ok (.aload_n 0, 1) := by decide +kernel
theorem dX5_findBest_79 : decode cX5_findBest 79 = .ok (.getfield 9, 3) := by decide +kernel
theorem dX5_findBest_82 : decode cX5_findBest 82 = .ok (.iconst 0, 1) := by decide +kernel
theorem dX5_findBest_83 : decode cX5_findBest 83 = .ok (.aload_n 0, 1) := by decide +kernel
theorem dX5_findBest_84 : decode cX5_findBest 84 = .ok (.getfield 15, 3) := by decide +kernel
theorem dX5_findBest_87 : decode cX5_findBest 87 = .ok (.iconst 0, 1) := by decide +kernel
theorem dX5_findBest_88 : decode cX5_findBest 88 = .ok (.iconst 4, 1) := by decide +kernel
theorem dX5_findBest_89 : decode cX5_findBest 89 = .ok (.invokestatic 48, 3) := by decide +kernel
theorem dX5_findBest_92 : decode cX5_findBest 92 = .ok (.iinc 4 1, 3) := by decide +kernel
theorem dX5_findBest_95 : decode cX5_findBest 95 = .ok (.goto (-75), 3) := by decide +kernel
theorem dX5_findBest_98 : decode cX5_findBest 98 = .ok (.aload_n 0, 1) := by decide +kernel
theorem dX5_findBest_99 : decode cX5_findBest 99 = .ok (.getfield 58, 3) := by decide +kernel
theorem dX5_findBest_102 : decode cX5_findBest 102 = .ok (.iconst (-1), 1) := by decide +kernel
theorem dX5_findBest_103 : decode cX5_findBest 103 = .ok (.if_icmp .eq 7, 3) := by decide +kernel
theorem dX5_findBest_106 : decode cX5_findBest 106 = .ok (.iconst 1, 1) := by decide +kernel
theorem dX5_findBest_107 : decode cX5_findBest 107 = .ok (.goto 4, 3) := by decide +kernel
theorem dX5_findBest_110 : decode cX5_findBest 110 = .ok (.iconst 0, 1) := by decide +kernel
theorem dX5_findBest_111 : decode cX5_findBest 111 = .ok (.ireturn, 1) := by decide +kernel
theorem dX5_putGreedily_0 : decode cX5_putGreedily 0 = .ok (.aload_n 0, 1) := by decide +kernel
theorem dX5_putGreedily_1 : decode cX5_putGreedily 1 = .ok (.aload_n 1, 1) := by decide +kernel
theorem dX5_putGreedily_2 : decode cX5_putGreedily 2 = .ok (.aload_n 2, 1) := by decide +kernel
theorem dX5_putGreedily_3 : decode cX5_putGreedily 3 = .ok (.invokevirtual 39, 3) := by decide +kernel
theorem dX5_putGreedily_6 : decode cX5_putGreedily 6 = .ok (.iconst 0, 1) := by decide +kernel
theorem dX5_putGreedily_7 : decode cX5_putGreedily 7 = .ok (.istore_n 3, 1) := by decide +kernel
theorem dX5_putGreedily_8 : decode cX5_putGreedily 8 = .ok (.iload_n 3, 1) := by decide +kernel
theorem dX5_putGreedily_9 : decode cX5_putGreedily 9 = .ok (.iconst 4, 1) := by decide +kernel
theorem dX5_putGreedily_10 : decode cX5_putGreedily 10 = .ok (.if_icmp .ge 16, 3) := by decide +kernel
theorem dX5_putGreedily_13 : decode cX5_putGreedily 13 = .ok (.aload_n 0, 1) := by decide +kernel
theorem dX5_putGreedily_14 : decode cX5_putGreedily 14 = .ok (.getfield 9, 3) := by decide +kernel
theorem dX5_putGreedily_17 : decode cX5_putGreedily 17 = .ok (.iload_n 3, 1) := by decide +kernel
theorem dX5_putGreedily_18 : decode cX5_putGreedily 18 = .ok (.iconst (-1), 1) := by decide +kernel
theorem dX5_putGreedily_19 : decode cX5_putGreedily 19 = .ok (.iastore, 1) := by decide +kernel
theorem dX5_putGreedily_20 : decode cX5_putGreedily 20 = .ok (.iinc 3 1, 3) := by decide +kernel
theorem dX5_putGreedily_23 : decode cX5_putGreedily 23 = .ok (.goto (-15), 3) := by decide +kernel
theorem dX5_putGreedily_26 : decode cX5_putGreedily 26 = .ok (.iconst 0, 1) := by decide +kernel
theorem dX5_putGreedily_27 : decode cX5_putGreedily 27 = .ok (.istore_n 3, 1) := by decide +kernel
theorem dX5_putGreedily_28 : decode cX5_putGreedily 28 = .ok (.iload_n 3, 1) := by decide +kernel
theorem dX5_putGreedily_29 : decode cX5_putGreedily 29 = .ok (.aload_n 1, 1) := by decide +kernel
theorem dX5_putGreedily_30 : decode cX5_putGreedily 30 = .ok (.getfield 69, 3) := by decide +kernel
theorem dX5_putGreedily_33 : decode cX5_putGreedily 33 = .ok (.if_icmp .ge 34, 3) := by decide +kernel
theorem dX5_putGreedily_36 : decode cX5_putGreedily 36 = .ok (.aload_n 0, 1) := by decide +kernel
theorem dX5_putGreedily_37 : decode cX5_putGreedily 37 = .ok (.aload_n 1, 1) := by decide +kernel
theorem dX5_putGreedily_38 : decode cX5_putGreedily 38 = .ok (.invokevirtual 74, 3) := by decide +kernel
theorem dX5_putGreedily_41 : decode cX5_putGreedily 41 = .ok (.istore 4, 2) := by decide +kernel
theorem dX5_putGreedily_43 : decode cX5_putGreedily 43 = .ok (.iload 4, 2) := by decide +kernel
theorem dX5_putGreedily_45 : decode cX5_putGreedily 45 = .ok (.iconst (-1), 1) := by decide +kernel
theorem dX5_putGreedily_46 : decode cX5_putGreedily 46 = .ok (.if_icmp .eq 13, 3) := by decide +kernel
theorem dX5_putGreedily_49 : decode cX5_putGreedily 49 = .ok (.aload_n 0, 1) := by decide +kernel
theorem dX5_putGreedily_50 : decode cX5_putGreedily 50 = .ok (.aload_n 1, 1) := by decide +kernel
theorem dX5_putGreedily_51 : decode cX5_putGreedily 51 = .ok (.iload 4, 2) := by decide +kernel
theorem dX5_putGreedily_53 : decode cX5_putGreedily 53 = .ok (.invokevirtual 77, 3) := by decide +kernel
theorem dX5_putGreedily_56 : decode cX5_putGreedily 56 = .ok (.ifCond .ne 5, 3) := by decide +kernel
theorem dX5_putGreedily_59 : decode cX5_putGreedily 59 = .ok (.iconst 0, 1) := by decide +kernel
theorem dX5_putGreedily_60 : decode cX5_putGreedily 60 = .ok (.ireturn, 1) := by decide +kernel
theorem dX5_putGreedily_61 : decode cX5_putGreedily 61 = .ok (.iinc 3 1, 3) := by decide +kernel
theorem dX5_putGreedily_64 : decode cX5_putGreedily 64 = .ok (.goto (-36), 3) := by decide +kernel
theorem dX5_putGreedily_67 : decode cX5_putGreedily 67 = .ok (.iconst 1, 1) := by decide +kernel
theorem dX5_putGreedily_68 : decode cX5_putGreedily 68 = .ok (.ireturn, 1) := by decide +kernel
theorem dX5_fewestMoves_0 : decode cX5_fewestMoves 0 = .ok (.aload_n 0, 1) := by decide +kernel
theorem dX5_fewestMoves_1 : decode cX5_fewestMoves 1 = .ok (.aload_n 1, 1) := by decide +kernel
theorem dX5_fewestMoves_2 : decode cX5_fewestMoves 2 = .ok (.aload_n 2, 1) := by decide +kernel
theorem dX5_fewestMoves_3 : decode cX5_fewestMoves 3 = .ok (.invokevirtual 81, 3) := by decide +kernel
theorem dX5_fewestMoves_6 : decode cX5_fewestMoves 6 = .ok (.ifCond .ne 5, 3) := by decide +kernel
theorem dX5_fewestMoves_9 : decode cX5_fewestMoves 9 = .ok (.iconst (-1), 1) := by decide +kernel
theorem dX5_fewestMoves_10 : decode cX5_fewestMoves 10 = .ok (.ireturn, 1) := by decide +kernel
theorem dX5_fewestMoves_11 : decode cX5_fewestMoves 11 = .ok (.iconst 0, 1) := by decide +kernel
theorem dX5_fewestMoves_12 : decode cX5_fewestMoves 12 = .ok (.istore_n 3, 1) := by decide +kernel
theorem dX5_fewestMoves_13 : decode cX5_fewestMoves 13 = .ok (.iload_n 3, 1) := by decide +kernel
theorem dX5_fewestMoves_14 : decode cX5_fewestMoves 14 = .ok (.sipush 1296, 3) := by decide +kernel
theorem dX5_fewestMoves_17 : decode cX5_fewestMoves 17 = .ok (.if_icmp .ge 16, 3) := by decide +kernel
theorem dX5_fewestMoves_20 : decode cX5_fewestMoves 20 = .ok (.aload_n 0, 1) := by decide +kernel
theorem dX5_fewestMoves_21 : decode cX5_fewestMoves 21 = .ok (.getfield 33, 3) := by decide +kernel
theorem dX5_fewestMoves_24 : decode cX5_fewestMoves 24 = .ok (.iload_n 3, 1) := by decide +kernel
theorem dX5_fewestMoves_25 : decode cX5_fewestMoves 25 = .ok (.iconst (-1), 1) := by decide +kernel
theorem dX5_fewestMoves_26 : decode cX5_fewestMoves 26 = .ok (.iastore, 1) := by decide +kernel
theorem dX5_fewestMoves_27 : decode cX5_fewestMoves 27 = .ok (.iinc 3 1, 3) := by decide +kernel
theorem dX5_fewestMoves_30 : decode cX5_fewestMoves 30 = .ok (.goto (-17), 3) := by decide +kernel
theorem dX5_fewestMoves_33 : decode cX5_fewestMoves 33 = .ok (.aload_n 0, 1) := by decide +kernel
theorem dX5_fewestMoves_34 : decode cX5_fewestMoves 34 = .ok (.iconst 0, 1) := by decide +kernel
theorem dX5_fewestMoves_35 : decode cX5_fewestMoves 35 = .ok (.putfield 85, 3) := by decide +kernel
theorem dX5_fewestMoves_38 : decode cX5_fewestMoves 38 = .ok (.aload_n 0, 1) := by decide +kernel
theorem dX5_fewestMoves_39 : decode cX5_fewestMoves 39 = .ok (.aload_n 0, 1) := by decide +kernel
theorem dX5_fewestMoves_40 : decode cX5_fewestMoves 40 = .ok (.aload_n 1, 1) := by decide +kernel
theorem dX5_fewestMoves_41 : decode cX5_fewestMoves 41 = .ok (.aload_n 2, 1) := by decide +kernel
theorem dX5_fewestMoves_42 : decode cX5_fewestMoves 42 = .ok (.getfield 43, 3) := by decide +kernel
theorem dX5_fewestMoves_45 : decode cX5_fewestMoves 45 = .ok (.invokevirtual 88, 3) := by decide +kernel
theorem dX5_fewestMoves_48 : decode cX5_fewestMoves 48 = .ok (.iconst 0, 1) := by decide +kernel
theorem dX5_fewestMoves_49 : decode cX5_fewestMoves 49 = .ok (.invokevirtual 92, 3) := by decide +kernel
theorem dX5_fewestMoves_52 : decode cX5_fewestMoves 52 = .ok (.iconst 0, 1) := by decide +kernel
theorem dX5_fewestMoves_53 : decode cX5_fewestMoves 53 = .ok (.istore_n 3, 1) := by decide +kernel
theorem dX5_fewestMoves_54 : decode cX5_fewestMoves 54 = .ok (.iload_n 3, 1) := by decide +kernel
theorem dX5_fewestMoves_55 : decode cX5_fewestMoves 55 = .ok (.aload_n 0, 1) := by decide +kernel
theorem dX5_fewestMoves_56 : decode cX5_fewestMoves 56 = .ok (.getfield 85, 3) := by decide +kernel
theorem dX5_fewestMoves_59 : decode cX5_fewestMoves 59 = .ok (.if_icmp .ge 53, 3) := by decide +kernel
theorem dX5_fewestMoves_62 : decode cX5_fewestMoves 62 = .ok (.iload_n 3, 1) := by decide +kernel
theorem dX5_fewestMoves_63 : decode cX5_fewestMoves 63 = .ok (.sipush 1296, 3) := by decide +kernel
theorem dX5_fewestMoves_66 : decode cX5_fewestMoves 66 = .ok (.if_icmp .ge 46, 3) := by decide +kernel
theorem dX5_fewestMoves_69 : decode cX5_fewestMoves 69 = .ok (.aload_n 0, 1) := by decide +kernel
theorem dX5_fewestMoves_70 : decode cX5_fewestMoves 70 = .ok (.getfield 36, 3) := by decide +kernel
theorem dX5_fewestMoves_73 : decode cX5_fewestMoves 73 = .ok (.iload_n 3, 1) := by decide +kernel
theorem dX5_fewestMoves_74 : decode cX5_fewestMoves 74 = .ok (.iaload, 1) := by decide +kernel
theorem dX5_fewestMoves_75 : decode cX5_fewestMoves 75 = .ok (.istore 4, 2) := by decide +kernel
theorem dX5_fewestMoves_77 : decode cX5_fewestMoves 77 = .ok (.aload_n 0, 1) := by decide +kernel
theorem dX5_fewestMoves_78 : decode cX5_fewestMoves 78 = .ok (.getfield 30, 3) := by decide +kernel
theorem dX5_fewestMoves_81 : decode cX5_fewestMoves 81 = .ok (.iload 4, 2) := by decide +kernel
theorem dX5_fewestMoves_83 : decode cX5_fewestMoves 83 = .ok (.iaload, 1) := by decide +kernel
theorem dX5_fewestMoves_84 : decode cX5_fewestMoves 84 = .ok (.aload_n 0, 1) := by decide +kernel
theorem dX5_fewestMoves_85 : decode cX5_fewestMoves 85 = .ok (.getfield 58, 3) := by decide +kernel
theorem dX5_fewestMoves_88 : decode cX5_fewestMoves 88 = .ok (.if_icmp .ne 11, 3) := by decide +kernel
theorem dX5_fewestMoves_91 : decode cX5_fewestMoves 91 = .ok (.aload_n 0, 1) := by decide +kernel
theorem dX5_fewestMoves_92 : decode cX5_fewestMoves 92 = .ok (.getfield 33, 3) := by decide +kernel
theorem dX5_fewestMoves_95 : decode cX5_fewestMoves 95 = .ok (.iload 4, 2) := by decide +kernel
theorem dX5_fewestMoves_97 : decode cX5_fewestMoves 97 = .ok (.iaload, 1) := by decide +kernel
theorem dX5_fewestMoves_98 : decode cX5_fewestMoves 98 = .ok (.ireturn, 1) := by decide +kernel
theorem dX5_fewestMoves_99 : decode cX5_fewestMoves 99 = .ok (.aload_n 0, 1) := by decide +kernel
theorem dX5_fewestMoves_100 : decode cX5_fewestMoves 100 = .ok (.aload_n 1, 1) := by decide +kernel
theorem dX5_fewestMoves_101 : decode cX5_fewestMoves 101 = .ok (.iload 4, 2) := by decide +kernel
theorem dX5_fewestMoves_103 : decode cX5_fewestMoves 103 = .ok (.invokevirtual 96, 3) := by decide +kernel
theorem dX5_fewestMoves_106 : decode cX5_fewestMoves 106 = .ok (.iinc 3 1, 3) := by decide +kernel
theorem dX5_fewestMoves_109 : decode cX5_fewestMoves 109 = .ok (.goto (-55), 3) := by decide +kernel
theorem dX5_fewestMoves_112 : decode cX5_fewestMoves 112 = .ok (.iconst (-1), 1) := by decide +kernel
theorem dX5_fewestMoves_113 : decode cX5_fewestMoves 113 = .ok (.ireturn, 1) := by decide +kernel
theorem dX5_oddsBy_0 : decode cX5_oddsBy 0 = .ok (.iconst 0, 1) := by decide +kernel
theorem dX5_oddsBy_1 : decode cX5_oddsBy 1 = .ok (.istore 4, 2) := by decide +kernel
theorem dX5_oddsBy_3 : decode cX5_oddsBy 3 = .ok (.iconst 0, 1) := by decide +kernel
theorem dX5_oddsBy_4 : decode cX5_oddsBy 4 = .ok (.istore 5, 2) := by decide +kernel
theorem dX5_oddsBy_6 : decode cX5_oddsBy 6 = .ok (.iload 5, 2) := by decide +kernel
theorem dX5_oddsBy_8 : decode cX5_oddsBy 8 = .ok (.iconst 1, 1) := by decide +kernel
theorem dX5_oddsBy_9 : decode cX5_oddsBy 9 = .ok (.aload_n 1, 1) := by decide +kernel
theorem dX5_oddsBy_10 : decode cX5_oddsBy 10 = .ok (.getfield 69, 3) := by decide +kernel
theorem dX5_oddsBy_13 : decode cX5_oddsBy 13 = .ok (.ishl, 1) := by decide +kernel
theorem dX5_oddsBy_14 : decode cX5_oddsBy 14 = .ok (.if_icmp .ge 43, 3) := by decide +kernel
theorem dX5_oddsBy_17 : decode cX5_oddsBy 17 = .ok (.aload_n 0, 1) := by decide +kernel
theorem dX5_oddsBy_18 : decode cX5_oddsBy 18 = .ok (.aload_n 1, 1) := by decide +kernel
theorem dX5_oddsBy_19 : decode cX5_oddsBy 19 = .ok (.aload_n 2, 1) := by decide +kernel
theorem dX5_oddsBy_20 : decode cX5_oddsBy 20 = .ok (.iload 5, 2) := by decide +kernel
theorem dX5_oddsBy_22 : decode cX5_oddsBy 22 = .ok (.iload_n 3, 1) := by decide +kernel
theorem dX5_oddsBy_23 : decode cX5_oddsBy 23 = .ok (.invokevirtual 99, 3) := by decide +kernel
theorem dX5_oddsBy_26 : decode cX5_oddsBy 26 = .ok (.istore 6, 2) := by decide +kernel
theorem dX5_oddsBy_28 : decode cX5_oddsBy 28 = .ok (.iload 6, 2) := by decide +kernel
theorem dX5_oddsBy_30 : decode cX5_oddsBy 30 = .ok (.ifCond .le 21, 3) := by decide +kernel
theorem dX5_oddsBy_33 : decode cX5_oddsBy 33 = .ok (.aload_n 0, 1) := by decide +kernel
theorem dX5_oddsBy_34 : decode cX5_oddsBy 34 = .ok (.aload_n 1, 1) := by decide +kernel
theorem dX5_oddsBy_35 : decode cX5_oddsBy 35 = .ok (.aload_n 2, 1) := by decide +kernel
theorem dX5_oddsBy_36 : decode cX5_oddsBy 36 = .ok (.iload 5, 2) := by decide +kernel
theorem dX5_oddsBy_38 : decode cX5_oddsBy 38 = .ok (.invokevirtual 103, 3) := by decide +kernel
theorem dX5_oddsBy_41 : decode cX5_oddsBy 41 = .ok (.ifCond .eq 10, 3) := by decide +kernel
theorem dX5_oddsBy_44 : decode cX5_oddsBy 44 = .ok (.iload 4, 2) := by decide +kernel
theorem dX5_oddsBy_46 : decode cX5_oddsBy 46 = .ok (.iload 6, 2) := by decide +kernel
theorem dX5_oddsBy_48 : decode cX5_oddsBy 48 = .ok (.iadd, 1) := by decide +kernel
theorem dX5_oddsBy_49 : decode cX5_oddsBy 49 = .ok (.istore 4, 2) := by decide +kernel
theorem dX5_oddsBy_51 : decode cX5_oddsBy 51 = .ok (.iinc 5 1, 3) := by decide +kernel
theorem dX5_oddsBy_54 : decode cX5_oddsBy 54 = .ok (.goto (-48), 3) := by decide +kernel
theorem dX5_oddsBy_57 : decode cX5_oddsBy 57 = .ok (.iload 4, 2) := by decide +kernel
theorem dX5_oddsBy_59 : decode cX5_oddsBy 59 = .ok (.ireturn, 1) := by decide +kernel
theorem dX5_priceOf_0 : decode cX5_priceOf 0 = .ok (.aload_n 0, 1) := by decide +kernel
theorem dX5_priceOf_1 : decode cX5_priceOf 1 = .ok (.aload_n 1, 1) := by decide +kernel
theorem dX5_priceOf_2 : decode cX5_priceOf 2 = .ok (.invokevirtual 107, 3) := by decide +kernel
theorem dX5_priceOf_5 : decode cX5_priceOf 5 = .ok (.iconst 0, 1) := by decide +kernel
theorem dX5_priceOf_6 : decode cX5_priceOf 6 = .ok (.istore_n 2, 1) := by decide +kernel
theorem dX5_priceOf_7 : decode cX5_priceOf 7 = .ok (.iconst 0, 1) := by decide +kernel
theorem dX5_priceOf_8 : decode cX5_priceOf 8 = .ok (.istore_n 3, 1) := by decide +kernel
theorem dX5_priceOf_9 : decode cX5_priceOf 9 = .ok (.iload_n 3, 1) := by decide +kernel
theorem dX5_priceOf_10 : decode cX5_priceOf 10 = .ok (.aload_n 1, 1) := by decide +kernel
theorem dX5_priceOf_11 : decode cX5_priceOf 11 = .ok (.getfield 111, 3) := by decide +kernel
theorem dX5_priceOf_14 : decode cX5_priceOf 14 = .ok (.if_icmp .ge 30, 3) := by decide +kernel
theorem dX5_priceOf_17 : decode cX5_priceOf 17 = .ok (.aload_n 0, 1) := by decide +kernel
theorem dX5_priceOf_18 : decode cX5_priceOf 18 = .ok (.aload_n 1, 1) := by decide +kernel
theorem dX5_priceOf_19 : decode cX5_priceOf 19 = .ok (.iload_n 3, 1) := by decide +kernel
theorem dX5_priceOf_20 : decode cX5_priceOf 20 = .ok (.invokevirtual 114, 3) := by decide +kernel
theorem dX5_priceOf_23 : decode cX5_priceOf 23 = .ok (.istore 4, 2) := by decide +kernel
theorem dX5_priceOf_25 : decode cX5_priceOf 25 = .ok (.iload 4, 2) := by decide +kernel
theorem dX5_priceOf_27 : decode cX5_priceOf 27 = .ok (.iconst (-1), 1) := by decide +kernel
theorem dX5_priceOf_28 : decode cX5_priceOf 28 = .ok (.if_icmp .ne 5, 3) := by decide +kernel
theorem dX5_priceOf_31 : decode cX5_priceOf 31 = .ok (.iconst (-1), 1) := by decide +kernel
theorem dX5_priceOf_32 : decode cX5_priceOf 32 = .ok (.ireturn, 1) := by decide +kernel
theorem dX5_priceOf_33 : decode cX5_priceOf 33 = .ok (.iload_n 2, 1) := by decide +kernel
theorem dX5_priceOf_34 : decode cX5_priceOf 34 = .ok (.iload 4, 2) := by decide +kernel
theorem dX5_priceOf_36 : decode cX5_priceOf 36 = .ok (.iadd, 1) := by decide +kernel
theorem dX5_priceOf_37 : decode cX5_priceOf 37 = .ok (.istore_n 2, 1) := by decide +kernel
theorem dX5_priceOf_38 : decode cX5_priceOf 38 = .ok (.iinc 3 1, 3) := by decide +kernel
theorem dX5_priceOf_41 : decode cX5_priceOf 41 = .ok (.goto (-32), 3) := by decide +kernel
theorem dX5_priceOf_44 : decode cX5_priceOf 44 = .ok (.iload_n 2, 1) := by decide +kernel
theorem dX5_priceOf_45 : decode cX5_priceOf 45 = .ok (.ireturn, 1) := by decide +kernel
theorem dX5_look_0 : decode cX5_look 0 = .ok (.iconst 0, 1) := by decide +kernel
theorem dX5_look_1 : decode cX5_look 1 = .ok (.istore_n 3, 1) := by decide +kernel
theorem dX5_look_2 : decode cX5_look 2 = .ok (.iload_n 3, 1) := by decide +kernel
theorem dX5_look_3 : decode cX5_look 3 = .ok (.aload_n 1, 1) := by decide +kernel
theorem dX5_look_4 : decode cX5_look 4 = .ok (.getfield 69, 3) := by decide +kernel
theorem dX5_look_7 : decode cX5_look 7 = .ok (.if_icmp .ge 32, 3) := by decide +kernel
theorem dX5_look_10 : decode cX5_look 10 = .ok (.aload_n 0, 1) := by decide +kernel
theorem dX5_look_11 : decode cX5_look 11 = .ok (.getfield 18, 3) := by decide +kernel
theorem dX5_look_14 : decode cX5_look 14 = .ok (.iload_n 3, 1) := by decide +kernel
theorem dX5_look_15 : decode cX5_look 15 = .ok (.aload_n 2, 1) := by decide +kernel
theorem dX5_look_16 : decode cX5_look 16 = .ok (.iload_n 3, 1) := by decide +kernel
theorem dX5_look_17 : decode cX5_look 17 = .ok (.invokevirtual 118, 3) := by decide +kernel
theorem dX5_look_20 : decode cX5_look 20 = .ok (.ifCond .eq 7, 3) := by decide +kernel
theorem dX5_look_23 : decode cX5_look 23 = .ok (.iconst 0, 1) := by decide +kernel
theorem dX5_look_24 : decode cX5_look 24 = .ok (.goto 8, 3) := by decide +kernel
theorem dX5_look_27 : decode cX5_look 27 = .ok (.aload_n 1, 1) := by decide +kernel
theorem dX5_look_28 : decode cX5_look 28 = .ok (.iload_n 3, 1) := by decide +kernel
theorem dX5_look_29 : decode cX5_look 29 = .ok (.invokevirtual 122, 3) := by decide +kernel
theorem dX5_look_32 : decode cX5_look 32 = .ok (.iastore, 1) := by decide +kernel
theorem dX5_look_33 : decode cX5_look 33 = .ok (.iinc 3 1, 3) := by decide +kernel
theorem dX5_look_36 : decode cX5_look 36 = .ok (.goto (-34), 3) := by decide +kernel
theorem dX5_look_39 : decode cX5_look 39 = .ok (.iconst 0, 1) := by decide +kernel
theorem dX5_look_40 : decode cX5_look 40 = .ok (.istore_n 3, 1) := by decide +kernel
theorem dX5_look_41 : decode cX5_look 41 = .ok (.iload_n 3, 1) := by decide +kernel
theorem dX5_look_42 : decode cX5_look 42 = .ok (.aload_n 1, 1) := by decide +kernel
theorem dX5_look_43 : decode cX5_look 43 = .ok (.getfield 111, 3) := by decide +kernel
theorem dX5_look_46 : decode cX5_look 46 = .ok (.if_icmp .ge 32, 3) := by decide +kernel
theorem dX5_look_49 : decode cX5_look 49 = .ok (.aload_n 0, 1) := by decide +kernel
theorem dX5_look_50 : decode cX5_look 50 = .ok (.getfield 21, 3) := by decide +kernel
theorem dX5_look_53 : decode cX5_look 53 = .ok (.iload_n 3, 1) := by decide +kernel
theorem dX5_look_54 : decode cX5_look 54 = .ok (.aload_n 2, 1) := by decide +kernel
theorem dX5_look_55 : decode cX5_look 55 = .ok (.iload_n 3, 1) := by decide +kernel
theorem dX5_look_56 : decode cX5_look 56 = .ok (.invokevirtual 126, 3) := by decide +kernel
theorem dX5_look_59 : decode cX5_look 59 = .ok (.iastore, 1) := by decide +kernel
theorem dX5_look_60 : decode cX5_look 60 = .ok (.aload_n 0, 1) := by decide +kernel
theorem dX5_look_61 : decode cX5_look 61 = .ok (.getfield 24, 3) := by decide +kernel
theorem dX5_look_64 : decode cX5_look 64 = .ok (.iload_n 3, 1) := by decide +kernel
theorem dX5_look_65 : decode cX5_look 65 = .ok (.aload_n 2, 1) := by decide +kernel
theorem dX5_look_66 : decode cX5_look 66 = .ok (.aload_n 1, 1) := by decide +kernel
theorem dX5_look_67 : decode cX5_look 67 = .ok (.iload_n 3, 1) := by decide +kernel
theorem dX5_look_68 : decode cX5_look 68 = .ok (.invokevirtual 129, 3) := by decide +kernel
theorem dX5_look_71 : decode cX5_look 71 = .ok (.iastore, 1) := by decide +kernel
theorem dX5_look_72 : decode cX5_look 72 = .ok (.iinc 3 1, 3) := by decide +kernel
theorem dX5_look_75 : decode cX5_look 75 = .ok (.goto (-34), 3) := by decide +kernel
theorem dX5_look_78 : decode cX5_look 78 = .ok (.return_, 1) := by decide +kernel
theorem dX5_addUp_0 : decode cX5_addUp 0 = .ok (.iconst 0, 1) := by decide +kernel
theorem dX5_addUp_1 : decode cX5_addUp 1 = .ok (.istore_n 2, 1) := by decide +kernel
theorem dX5_addUp_2 : decode cX5_addUp 2 = .ok (.iload_n 2, 1) := by decide +kernel
theorem dX5_addUp_3 : decode cX5_addUp 3 = .ok (.aload_n 1, 1) := by decide +kernel
theorem dX5_addUp_4 : decode cX5_addUp 4 = .ok (.getfield 132, 3) := by decide +kernel
theorem dX5_addUp_7 : decode cX5_addUp 7 = .ok (.if_icmp .ge 16, 3) := by decide +kernel
theorem dX5_addUp_10 : decode cX5_addUp 10 = .ok (.aload_n 0, 1) := by decide +kernel
theorem dX5_addUp_11 : decode cX5_addUp 11 = .ok (.getfield 27, 3) := by decide +kernel
theorem dX5_addUp_14 : decode cX5_addUp 14 = .ok (.iload_n 2, 1) := by decide +kernel
theorem dX5_addUp_15 : decode cX5_addUp 15 = .ok (.iconst 0, 1) := by decide +kernel
theorem dX5_addUp_16 : decode cX5_addUp 16 = .ok (.iastore, 1) := by decide +kernel
theorem dX5_addUp_17 : decode cX5_addUp 17 = .ok (.iinc 2 1, 3) := by decide +kernel
theorem dX5_addUp_20 : decode cX5_addUp 20 = .ok (.goto (-18), 3) := by decide +kernel
theorem dX5_addUp_23 : decode cX5_addUp 23 = .ok (.iconst 0, 1) := by decide +kernel
theorem dX5_addUp_24 : decode cX5_addUp 24 = .ok (.istore_n 2, 1) := by decide +kernel
theorem dX5_addUp_25 : decode cX5_addUp 25 = .ok (.iload_n 2, 1) := by decide +kernel
theorem dX5_addUp_26 : decode cX5_addUp 26 = .ok (.aload_n 1, 1) := by decide +kernel
theorem dX5_addUp_27 : decode cX5_addUp 27 = .ok (.getfield 69, 3) := by decide +kernel
theorem dX5_addUp_30 : decode cX5_addUp 30 = .ok (.if_icmp .ge 42, 3) := by decide +kernel
theorem dX5_addUp_33 : decode cX5_addUp 33 = .ok (.aload_n 1, 1) := by decide +kernel
theorem dX5_addUp_34 : decode cX5_addUp 34 = .ok (.aload_n 0, 1) := by decide +kernel
theorem dX5_addUp_35 : decode cX5_addUp 35 = .ok (.getfield 9, 3) := by decide +kernel
theorem dX5_addUp_38 : decode cX5_addUp 38 = .ok (.iload_n 2, 1) := by decide +kernel
theorem dX5_addUp_39 : decode cX5_addUp 39 = .ok (.iaload, 1) := by decide +kernel
theorem dX5_addUp_40 : decode cX5_addUp 40 = .ok (.invokevirtual 135, 3) := by decide +kernel
theorem dX5_addUp_43 : decode cX5_addUp 43 = .ok (.ifCond .eq 23, 3) := by decide +kernel
theorem dX5_addUp_46 : decode cX5_addUp 46 = .ok (.aload_n 0, 1) := by decide +kernel
theorem dX5_addUp_47 : decode cX5_addUp 47 = .ok (.getfield 27, 3) := by decide +kernel
theorem dX5_addUp_50 : decode cX5_addUp 50 = .ok (.aload_n 0, 1) := by decide +kernel
theorem dX5_addUp_51 : decode cX5_addUp 51 = .ok (.getfield 9, 3) := by decide +kernel
theorem dX5_addUp_54 : decode cX5_addUp 54 = .ok (.iload_n 2, 1) := by decide +kernel
theorem dX5_addUp_55 : decode cX5_addUp 55 = .ok (.iaload, 1) := by decide +kernel
theorem dX5_addUp_56 : decode cX5_addUp 56 = .ok (.dup2, 1) := by decide +kernel
theorem dX5_addUp_57 : decode cX5_addUp 57 = .ok (.iaload, 1) := by decide +kernel
theorem dX5_addUp_58 : decode cX5_addUp 58 = .ok (.aload_n 0, 1) := by decide +kernel
theorem dX5_addUp_59 : decode cX5_addUp 59 = .ok (.getfield 18, 3) := by decide +kernel
theorem dX5_addUp_62 : decode cX5_addUp 62 = .ok (.iload_n 2, 1) := by decide +kernel
theorem dX5_addUp_63 : decode cX5_addUp 63 = .ok (.iaload, 1) := by decide +kernel
theorem dX5_addUp_64 : decode cX5_addUp 64 = .ok (.iadd, 1) := by decide +kernel
theorem dX5_addUp_65 : decode cX5_addUp 65 = .ok (.iastore, 1) := by decide +kernel
theorem dX5_addUp_66 : decode cX5_addUp 66 = .ok (.iinc 2 1, 3) := by decide +kernel
theorem dX5_addUp_69 : decode cX5_addUp 69 = .ok (.goto (-44), 3) := by decide +kernel
theorem dX5_addUp_72 : decode cX5_addUp 72 = .ok (.return_, 1) := by decide +kernel
theorem dX5_clusterPrice_0 : decode cX5_clusterPrice 0 = .ok (.iconst 0, 1) := by decide +kernel
theorem dX5_clusterPrice_1 : decode cX5_clusterPrice 1 = .ok (.istore_n 3, 1) := by decide +kernel
theorem dX5_clusterPrice_2 : decode cX5_clusterPrice 2 = .ok (.iconst 0, 1) := by decide +kernel
theorem dX5_clusterPrice_3 : decode cX5_clusterPrice 3 = .ok (.istore 4, 2) := by decide +kernel
theorem dX5_clusterPrice_5 : decode cX5_clusterPrice 5 = .ok (.iconst 0, 1) := by decide +kernel
theorem dX5_clusterPrice_6 : decode cX5_clusterPrice 6 = .ok (.istore 5, 2) := by decide +kernel
theorem dX5_clusterPrice_8 : decode cX5_clusterPrice 8 = .ok (.iconst 0, 1) := by decide +kernel
theorem dX5_clusterPrice_9 : decode cX5_clusterPrice 9 = .ok (.istore 6, 2) := by decide +kernel
theorem dX5_clusterPrice_11 : decode cX5_clusterPrice 11 = .ok (.iload 6, 2) := by decide +kernel
theorem dX5_clusterPrice_13 : decode cX5_clusterPrice 13 = .ok (.aload_n 1, 1) := by decide +kernel
theorem dX5_clusterPrice_14 : decode cX5_clusterPrice 14 = .ok (.getfield 132, 3) := by decide +kernel
theorem dX5_clusterPrice_17 : decode cX5_clusterPrice 17 = .ok (.if_icmp .ge 64, 3) := by decide +kernel
theorem dX5_clusterPrice_20 : decode cX5_clusterPrice 20 = .ok (.aload_n 1, 1) := by decide +kernel
theorem dX5_clusterPrice_21 : decode cX5_clusterPrice 21 = .ok (.getfield 138, 3) := by decide +kernel
theorem dX5_clusterPrice_24 : decode cX5_clusterPrice 24 = .ok (.iload 6, 2) := by decide +kernel
theorem dX5_clusterPrice_26 : decode cX5_clusterPrice 26 = .ok (.iaload, 1) := by decide +kernel
theorem dX5_clusterPrice_27 : decode cX5_clusterPrice 27 = .ok (.iload_n 2, 1) := by decide +kernel
theorem dX5_clusterPrice_28 : decode cX5_clusterPrice 28 = .ok (.if_icmp .ne 47, 3) := by decide +kernel
theorem dX5_clusterPrice_31 : decode cX5_clusterPrice 31 = .ok (.iload_n 3, 1) := by decide +kernel
theorem dX5_clusterPrice_32 : decode cX5_clusterPrice 32 = .ok (.aload_n 0, 1) := by decide +kernel
theorem dX5_clusterPrice_33 : decode cX5_clusterPrice 33 = .ok (.getfield 27, 3) := by decide +kernel
theorem dX5_clusterPrice_36 : decode cX5_clusterPrice 36 = .ok (.iload 6, 2) := by decide +kernel
theorem dX5_clusterPrice_38 : decode cX5_clusterPrice 38 = .ok (.iaload, 1) := by decide +kernel
theorem dX5_clusterPrice_39 : decode cX5_clusterPrice 39 = .ok (.invokestatic 141, 3) := by decide +kernel
theorem dX5_clusterPrice_42 : decode cX5_clusterPrice 42 = .ok (.istore_n 3, 1) := by decide +kernel
theorem dX5_clusterPrice_43 : decode cX5_clusterPrice 43 = .ok (.iload 4, 2) := by decide +kernel
theorem dX5_clusterPrice_45 : decode cX5_clusterPrice 45 = .ok (.aload_n 0, 1) := by decide +kernel
theorem dX5_clusterPrice_46 : decode cX5_clusterPrice 46 = .ok (.getfield 27, 3) := by decide +kernel
theorem dX5_clusterPrice_49 : decode cX5_clusterPrice 49 = .ok (.iload 6, 2) := by decide +kernel
theorem dX5_clusterPrice_51 : decode cX5_clusterPrice 51 = .ok (.iaload, 1) := by decide +kernel
theorem dX5_clusterPrice_52 : decode cX5_clusterPrice 52 = .ok (.iadd, 1) := by decide +kernel
theorem dX5_clusterPrice_53 : decode cX5_clusterPrice 53 = .ok (.istore 4, 2) := by decide +kernel
theorem dX5_clusterPrice_55 : decode cX5_clusterPrice 55 = .ok (.iload 5, 2) := by decide +kernel
theorem dX5_clusterPrice_57 : decode cX5_clusterPrice 57 = .ok (.aload_n 0, 1) := by decide +kernel
theorem dX5_clusterPrice_58 : decode cX5_clusterPrice 58 = .ok (.getfield 27, 3) := by decide +kernel
theorem dX5_clusterPrice_61 : decode cX5_clusterPrice 61 = .ok (.iload 6, 2) := by decide +kernel
theorem dX5_clusterPrice_63 : decode cX5_clusterPrice 63 = .ok (.iaload, 1) := by decide +kernel
theorem dX5_clusterPrice_64 : decode cX5_clusterPrice 64 = .ok (.ifCond .le 7, 3) := by decide +kernel
theorem dX5_clusterPrice_67 : decode cX5_clusterPrice 67 = .ok (.iconst 1, 1) := by decide +kernel
theorem dX5_clusterPrice_68 : decode cX5_clusterPrice 68 = .ok (.goto 4, 3) := by decide +kernel
theorem dX5_clusterPrice_71 : decode cX5_clusterPrice 71 = .ok (.iconst 0, 1) := by decide +kernel
theorem dX5_clusterPrice_72 : decode cX5_clusterPrice 72 = .ok (.iadd, 1) := by decide +kernel
theorem dX5_clusterPrice_73 : decode cX5_clusterPrice 73 = .ok (.istore 5, 2) := by decide +kernel
theorem dX5_clusterPrice_75 : decode cX5_clusterPrice 75 = .ok (.iinc 6 1, 3) := by decide +kernel
theorem dX5_clusterPrice_78 : decode cX5_clusterPrice 78 = .ok (.goto (-67), 3) := by decide +kernel
theorem dX5_clusterPrice_81 : decode cX5_clusterPrice 81 = .ok (.aload_n 1, 1) := by decide +kernel
theorem dX5_clusterPrice_82 : decode cX5_clusterPrice 82 = .ok (.iload_n 2, 1) := by decide +kernel
theorem dX5_clusterPrice_83 : decode cX5_clusterPrice 83 = .ok (.iload_n 3, 1) := by decide +kernel
theorem dX5_clusterPrice_84 : decode cX5_clusterPrice 84 = .ok (.invokevirtual 147, 3) := by decide +kernel
theorem dX5_clusterPrice_87 : decode cX5_clusterPrice 87 = .ok (.istore 6, 2) := by decide +kernel
theorem dX5_clusterPrice_89 : decode cX5_clusterPrice 89 = .ok (.iload 6, 2) := by decide +kernel
theorem dX5_clusterPrice_91 : decode cX5_clusterPrice 91 = .ok (.iconst (-1), 1) := by decide +kernel
theorem dX5_clusterPrice_92 : decode cX5_clusterPrice 92 = .ok (.if_icmp .eq 14, 3) := by decide +kernel
theorem dX5_clusterPrice_95 : decode cX5_clusterPrice 95 = .ok (.iload 6, 2) := by decide +kernel
theorem dX5_clusterPrice_97 : decode cX5_clusterPrice 97 = .ok (.aload_n 0, 1) := by decide +kernel
theorem dX5_clusterPrice_98 : decode cX5_clusterPrice 98 = .ok (.getfield 24, 3) := by decide +kernel
theorem dX5_clusterPrice_101 : decode cX5_clusterPrice 101 = .ok (.iload_n 2, 1) := by decide +kernel
theorem dX5_clusterPrice_102 : decode cX5_clusterPrice 102 = .ok (.iaload, 1) := by decide +kernel
theorem dX5_clusterPrice_103 : decode cX5_clusterPrice 103 = .ok (.if_icmp .le 5, 3) := by decide +kernel
theorem dX5_clusterPrice_106 : decode cX5_clusterPrice 106 = .ok (.iconst (-1), 1) := by decide +kernel
theorem dX5_clusterPrice_107 : decode cX5_clusterPrice 107 = .ok (.ireturn, 1) := by decide +kernel
theorem dX5_clusterPrice_108 : decode cX5_clusterPrice 108 = .ok (.iload 6, 2) := by decide +kernel
theorem dX5_clusterPrice_110 : decode cX5_clusterPrice 110 = .ok (.aload_n 0, 1) := by decide +kernel
theorem dX5_clusterPrice_111 : decode cX5_clusterPrice 111 = .ok (.getfield 21, 3) := by decide +kernel
theorem dX5_clusterPrice_114 : decode cX5_clusterPrice 114 = .ok (.iload_n 2, 1) := by decide +kernel
theorem dX5_clusterPrice_115 : decode cX5_clusterPrice 115 = .ok (.iaload, 1) := by decide +kernel
theorem dX5_clusterPrice_116 : decode cX5_clusterPrice 116 = .ok (.invokestatic 141, 3) := by decide +kernel
theorem dX5_clusterPrice_119 : decode cX5_clusterPrice 119 = .ok (.aload_n 0, 1) := by decide +kernel
theorem dX5_clusterPrice_120 : decode cX5_clusterPrice 120 = .ok (.getfield 24, 3) := by decide +kernel
theorem dX5_clusterPrice_123 : decode cX5_clusterPrice 123 = .ok (.iload_n 2, 1) := by decide +kernel
theorem dX5_clusterPrice_124 : decode cX5_clusterPrice 124 = .ok (.iaload, 1) := by decide +kernel
theorem dX5_clusterPrice_125 : decode cX5_clusterPrice 125 = .ok (.invokestatic 150, 3) := by decide +kernel
theorem dX5_clusterPrice_128 : decode cX5_clusterPrice 128 = .ok (.istore 6, 2) := by decide +kernel
theorem dX5_clusterPrice_130 : decode cX5_clusterPrice 130 = .ok (.aload_n 1, 1) := by decide +kernel
theorem dX5_clusterPrice_131 : decode cX5_clusterPrice 131 = .ok (.iload_n 2, 1) := by decide +kernel
theorem dX5_clusterPrice_132 : decode cX5_clusterPrice 132 = .ok (.iload 6, 2) := by decide +kernel
theorem dX5_clusterPrice_134 : decode cX5_clusterPrice 134 = .ok (.invokevirtual 153, 3) := by decide +kernel
theorem dX5_clusterPrice_137 : decode cX5_clusterPrice 137 = .ok (.ifCond .eq 15, 3) := by decide +kernel
theorem dX5_clusterPrice_140 : decode cX5_clusterPrice 140 = .ok (.aload_n 1, 1) := by decide +kernel
theorem dX5_clusterPrice_141 : decode cX5_clusterPrice 141 = .ok (.getfield 157, 3) := by decide +kernel
theorem dX5_clusterPrice_144 : decode cX5_clusterPrice 144 = .ok (.iload_n 2, 1) := by decide +kernel
theorem dX5_clusterPrice_145 : decode cX5_clusterPrice 145 = .ok (.aaload, 1) := by decide +kernel
theorem dX5_clusterPrice_146 : decode cX5_clusterPrice 146 = .ok (.iload 6, 2) := by decide +kernel
theorem dX5_clusterPrice_148 : decode cX5_clusterPrice 148 = .ok (.iaload, 1) := by decide +kernel
theorem dX5_clusterPrice_149 : decode cX5_clusterPrice 149 = .ok (.goto 4, 3) := by decide +kernel
theorem dX5_clusterPrice_152 : decode cX5_clusterPrice 152 = .ok (.iconst 0, 1) := by decide +kernel
theorem dX5_clusterPrice_153 : decode cX5_clusterPrice 153 = .ok (.istore 7, 2) := by decide +kernel
theorem dX5_clusterPrice_155 : decode cX5_clusterPrice 155 = .ok (.iload 4, 2) := by decide +kernel
theorem dX5_clusterPrice_157 : decode cX5_clusterPrice 157 = .ok (.iload 7, 2) := by decide +kernel
theorem dX5_clusterPrice_159 : decode cX5_clusterPrice 159 = .ok (.imul, 1) := by decide +kernel
theorem dX5_clusterPrice_160 : decode cX5_clusterPrice 160 = .ok (.iload 5, 2) := by decide +kernel
theorem dX5_clusterPrice_162 : decode cX5_clusterPrice 162 = .ok (.aload_n 1, 1) := by decide +kernel
theorem dX5_clusterPrice_163 : decode cX5_clusterPrice 163 = .ok (.getfield 161, 3) := by decide +kernel
theorem dX5_clusterPrice_166 : decode cX5_clusterPrice 166 = .ok (.iload_n 2, 1) := by decide +kernel
theorem dX5_clusterPrice_167 : decode cX5_clusterPrice 167 = .ok (.iaload, 1) := by decide +kernel
theorem dX5_clusterPrice_168 : decode cX5_clusterPrice 168 = .ok (.imul, 1) := by decide +kernel
theorem dX5_clusterPrice_169 : decode cX5_clusterPrice 169 = .ok (.iadd, 1) := by decide +kernel
theorem dX5_clusterPrice_170 : decode cX5_clusterPrice 170 = .ok (.ireturn, 1) := by decide +kernel
theorem dX5_waysOf_0 : decode cX5_waysOf 0 = .ok (.iconst 1, 1) := by decide +kernel
theorem dX5_waysOf_1 : decode cX5_waysOf 1 = .ok (.istore_n 2, 1) := by decide +kernel
theorem dX5_waysOf_2 : decode cX5_waysOf 2 = .ok (.iconst 0, 1) := by decide +kernel
theorem dX5_waysOf_3 : decode cX5_waysOf 3 = .ok (.istore_n 3, 1) := by decide +kernel
theorem dX5_waysOf_4 : decode cX5_waysOf 4 = .ok (.iload_n 3, 1) := by decide +kernel
theorem dX5_waysOf_5 : decode cX5_waysOf 5 = .ok (.aload_n 1, 1) := by decide +kernel
theorem dX5_waysOf_6 : decode cX5_waysOf 6 = .ok (.getfield 69, 3) := by decide +kernel
theorem dX5_waysOf_9 : decode cX5_waysOf 9 = .ok (.if_icmp .ge 16, 3) := by decide +kernel
theorem dX5_waysOf_12 : decode cX5_waysOf 12 = .ok (.iload_n 2, 1) := by decide +kernel
theorem dX5_waysOf_13 : decode cX5_waysOf 13 = .ok (.aload_n 1, 1) := by decide +kernel
theorem dX5_waysOf_14 : decode cX5_waysOf 14 = .ok (.getfield 132, 3) := by decide +kernel
theorem dX5_waysOf_17 : decode cX5_waysOf 17 = .ok (.imul, 1) := by decide +kernel
theorem dX5_waysOf_18 : decode cX5_waysOf 18 = .ok (.istore_n 2, 1) := by decide +kernel
theorem dX5_waysOf_19 : decode cX5_waysOf 19 = .ok (.iinc 3 1, 3) := by decide +kernel
theorem dX5_waysOf_22 : decode cX5_waysOf 22 = .ok (.goto (-18), 3) := by decide +kernel
theorem dX5_waysOf_25 : decode cX5_waysOf 25 = .ok (.iload_n 2, 1) := by decide +kernel
theorem dX5_waysOf_26 : decode cX5_waysOf 26 = .ok (.sipush 1296, 3) := by decide +kernel
theorem dX5_waysOf_29 : decode cX5_waysOf 29 = .ok (.invokestatic 150, 3) := by decide +kernel
theorem dX5_waysOf_32 : decode cX5_waysOf 32 = .ok (.ireturn, 1) := by decide +kernel
theorem dX5_spread_0 : decode cX5_spread 0 = .ok (.iload_n 2, 1) := by decide +kernel
theorem dX5_spread_1 : decode cX5_spread 1 = .ok (.istore_n 3, 1) := by decide +kernel
theorem dX5_spread_2 : decode cX5_spread 2 = .ok (.aload_n 1, 1) := by decide +kernel
theorem dX5_spread_3 : decode cX5_spread 3 = .ok (.getfield 69, 3) := by decide +kernel
theorem dX5_spread_6 : decode cX5_spread 6 = .ok (.iconst 1, 1) := by decide +kernel
theorem dX5_spread_7 : decode cX5_spread 7 = .ok (.isub, 1) := by decide +kernel
theorem dX5_spread_8 : decode cX5_spread 8 = .ok (.istore 4, 2) := by decide +kernel
theorem dX5_spread_10 : decode cX5_spread 10 = .ok (.iload 4, 2) := by decide +kernel
theorem dX5_spread_12 : decode cX5_spread 12 = .ok (.ifCond .lt 36, 3) := by decide +kernel
theorem dX5_spread_15 : decode cX5_spread 15 = .ok (.aload_n 1, 1) := by decide +kernel
theorem dX5_spread_16 : decode cX5_spread 16 = .ok (.getfield 132, 3) := by decide +kernel
theorem dX5_spread_19 : decode cX5_spread 19 = .ok (.ifCond .le 29, 3) := by decide +kernel
theorem dX5_spread_22 : decode cX5_spread 22 = .ok (.aload_n 0, 1) := by decide +kernel
theorem dX5_spread_23 : decode cX5_spread 23 = .ok (.getfield 9, 3) := by decide +kernel
theorem dX5_spread_26 : decode cX5_spread 26 = .ok (.iload 4, 2) := by decide +kernel
theorem dX5_spread_28 : decode cX5_spread 28 = .ok (.iload_n 3, 1) := by decide +kernel
theorem dX5_spread_29 : decode cX5_spread 29 = .ok (.aload_n 1, 1) := by decide +kernel
theorem dX5_spread_30 : decode cX5_spread 30 = .ok (.getfield 132, 3) := by decide +kernel
theorem dX5_spread_33 : decode cX5_spread 33 = .ok (.irem, 1) := by decide +kernel
theorem dX5_spread_34 : decode cX5_spread 34 = .ok (.iastore, 1) := by decide +kernel
theorem dX5_spread_35 : decode cX5_spread 35 = .ok (.iload_n 3, 1) := by decide +kernel
theorem dX5_spread_36 : decode cX5_spread 36 = .ok (.aload_n 1, 1) := by decide +kernel
theorem dX5_spread_37 : decode cX5_spread 37 = .ok (.getfield 132, 3) := by decide +kernel
theorem dX5_spread_40 : decode cX5_spread 40 = .ok (.idiv, 1) := by decide +kernel
theorem dX5_spread_41 : decode cX5_spread 41 = .ok (.istore_n 3, 1) := by decide +kernel
theorem dX5_spread_42 : decode cX5_spread 42 = .ok (.iinc 4 (-1), 3) := by decide +kernel
theorem dX5_spread_45 : decode cX5_spread 45 = .ok (.goto (-35), 3) := by decide +kernel
theorem dX5_spread_48 : decode cX5_spread 48 = .ok (.return_, 1) := by decide +kernel
theorem dX5_numberOf_0 : decode cX5_numberOf 0 = .ok (.iconst 0, 1) := by decide +kernel
theorem dX5_numberOf_1 : decode cX5_numberOf 1 = .ok (.istore_n 3, 1) := by decide +kernel
theorem dX5_numberOf_2 : decode cX5_numberOf 2 = .ok (.iconst 0, 1) := by decide +kernel
theorem dX5_numberOf_3 : decode cX5_numberOf 3 = .ok (.istore 4, 2) := by decide +kernel
theorem dX5_numberOf_5 : decode cX5_numberOf 5 = .ok (.iload 4, 2) := by decide +kernel
theorem dX5_numberOf_7 : decode cX5_numberOf 7 = .ok (.aload_n 1, 1) := by decide +kernel
theorem dX5_numberOf_8 : decode cX5_numberOf 8 = .ok (.getfield 69, 3) := by decide +kernel
theorem dX5_numberOf_11 : decode cX5_numberOf 11 = .ok (.if_icmp .ge 21, 3) := by decide +kernel
theorem dX5_numberOf_14 : decode cX5_numberOf 14 = .ok (.iload_n 3, 1) := by decide +kernel
theorem dX5_numberOf_15 : decode cX5_numberOf 15 = .ok (.aload_n 1, 1) := by decide +kernel
theorem dX5_numberOf_16 : decode cX5_numberOf 16 = .ok (.getfield 132, 3) := by decide +kernel
theorem dX5_numberOf_19 : decode cX5_numberOf 19 = .ok (.imul, 1) := by decide +kernel
theorem dX5_numberOf_20 : decode cX5_numberOf 20 = .ok (.aload_n 2, 1) := by decide +kernel
theorem dX5_numberOf_21 : decode cX5_numberOf 21 = .ok (.iload 4, 2) := by decide +kernel
theorem dX5_numberOf_23 : decode cX5_numberOf 23 = .ok (.iaload, 1) := by decide +kernel
theorem dX5_numberOf_24 : decode cX5_numberOf 24 = .ok (.iadd, 1) := by decide +kernel
theorem dX5_numberOf_25 : decode cX5_numberOf 25 = .ok (.istore_n 3, 1) := by decide +kernel
theorem dX5_numberOf_26 : decode cX5_numberOf 26 = .ok (.iinc 4 1, 3) := by decide +kernel
theorem dX5_numberOf_29 : decode cX5_numberOf 29 = .ok (.goto (-24), 3) := by decide +kernel
theorem dX5_numberOf_32 : decode cX5_numberOf 32 = .ok (.iload_n 3, 1) := by decide +kernel
theorem dX5_numberOf_33 : decode cX5_numberOf 33 = .ok (.ireturn, 1) := by decide +kernel
theorem dX5_greatestNotPut_0 : decode cX5_greatestNotPut 0 = .ok (.iconst (-1), 1) := by decide +kernel
theorem dX5_greatestNotPut_1 : decode cX5_greatestNotPut 1 = .ok (.istore_n 2, 1) := by decide +kernel
theorem dX5_greatestNotPut_2 : decode cX5_greatestNotPut 2 = .ok (.iconst 0, 1) := by decide +kernel
theorem dX5_greatestNotPut_3 : decode cX5_greatestNotPut 3 = .ok (.istore_n 3, 1) := by decide +kernel
theorem dX5_greatestNotPut_4 : decode cX5_greatestNotPut 4 = .ok (.iload_n 3, 1) := by decide +kernel
theorem dX5_greatestNotPut_5 : decode cX5_greatestNotPut 5 = .ok (.aload_n 1, 1) := by decide +kernel
theorem dX5_greatestNotPut_6 : decode cX5_greatestNotPut 6 = .ok (.getfield 69, 3) := by decide +kernel
theorem dX5_greatestNotPut_9 : decode cX5_greatestNotPut 9 = .ok (.if_icmp .ge 41, 3) := by decide +kernel
theorem dX5_greatestNotPut_12 : decode cX5_greatestNotPut 12 = .ok (.aload_n 0, 1) := by decide +kernel
theorem dX5_greatestNotPut_13 : decode cX5_greatestNotPut 13 = .ok (.getfield 9, 3) := by decide +kernel
theorem dX5_greatestNotPut_16 : decode cX5_greatestNotPut 16 = .ok (.iload_n 3, 1) := by decide +kernel
theorem dX5_greatestNotPut_17 : decode cX5_greatestNotPut 17 = .ok (.iaload, 1) := by decide +kernel
theorem dX5_greatestNotPut_18 : decode cX5_greatestNotPut 18 = .ok (.iconst (-1), 1) := by decide +kernel
theorem dX5_greatestNotPut_19 : decode cX5_greatestNotPut 19 = .ok (.if_icmp .ne 25, 3) := by decide +kernel
theorem dX5_greatestNotPut_22 : decode cX5_greatestNotPut 22 = .ok (.iload_n 2, 1) := by decide +kernel
theorem dX5_greatestNotPut_23 : decode cX5_greatestNotPut 23 = .ok (.iconst (-1), 1) := by decide +kernel
theorem dX5_greatestNotPut_24 : decode cX5_greatestNotPut 24 = .ok (.if_icmp .eq 18, 3) := by decide +kernel
theorem dX5_greatestNotPut_27 : decode cX5_greatestNotPut 27 = .ok (.aload_n 0, 1) := by decide +kernel
theorem dX5_greatestNotPut_28 : decode cX5_greatestNotPut 28 = .ok (.getfield 18, 3) := by decide +kernel
theorem dX5_greatestNotPut_31 : decode cX5_greatestNotPut 31 = .ok (.iload_n 3, 1) := by decide +kernel
theorem dX5_greatestNotPut_32 : decode cX5_greatestNotPut 32 = .ok (.iaload, 1) := by decide +kernel
theorem dX5_greatestNotPut_33 : decode cX5_greatestNotPut 33 = .ok (.aload_n 0, 1) := by decide +kernel
theorem dX5_greatestNotPut_34 : decode cX5_greatestNotPut 34 = .ok (.getfield 18, 3) := by decide +kernel
theorem dX5_greatestNotPut_37 : decode cX5_greatestNotPut 37 = .ok (.iload_n 2, 1) := by decide +kernel
theorem dX5_greatestNotPut_38 : decode cX5_greatestNotPut 38 = .ok (.iaload, 1) := by decide +kernel
theorem dX5_greatestNotPut_39 : decode cX5_greatestNotPut 39 = .ok (.if_icmp .le 5, 3) := by decide +kernel
theorem dX5_greatestNotPut_42 : decode cX5_greatestNotPut 42 = .ok (.iload_n 3, 1) := by decide +kernel
theorem dX5_greatestNotPut_43 : decode cX5_greatestNotPut 43 = .ok (.istore_n 2, 1) := by decide +kernel
theorem dX5_greatestNotPut_44 : decode cX5_greatestNotPut 44 = .ok (.iinc 3 1, 3) := by decide +kernel
theorem dX5_greatestNotPut_47 : decode cX5_greatestNotPut 47 = .ok (.goto (-43), 3) := by decide +kernel
theorem dX5_greatestNotPut_50 : decode cX5_greatestNotPut 50 = .ok (.iload_n 2, 1) := by decide +kernel
theorem dX5_greatestNotPut_51 : decode cX5_greatestNotPut 51 = .ok (.ireturn, 1) := by decide +kernel
theorem dX5_putCheaply_0 : decode cX5_putCheaply 0 = .ok (.iconst (-1), 1) := by decide +kernel
theorem dX5_putCheaply_1 : decode cX5_putCheaply 1 = .ok (.istore_n 3, 1) := by decide +kernel
theorem dX5_putCheaply_2 : decode cX5_putCheaply 2 = .ok (.iconst (-1), 1) := by decide +kernel
theorem dX5_putCheaply_3 : decode cX5_putCheaply 3 = .ok (.istore 4, 2) := by decide +kernel
theorem dX5_putCheaply_5 : decode cX5_putCheaply 5 = .ok (.iconst 0, 1) := by decide +kernel
theorem dX5_putCheaply_6 : decode cX5_putCheaply 6 = .ok (.istore 5, 2) := by decide +kernel
theorem dX5_putCheaply_8 : decode cX5_putCheaply 8 = .ok (.iload 5, 2) := by decide +kernel
theorem dX5_putCheaply_10 : decode cX5_putCheaply 10 = .ok (.aload_n 1, 1) := by decide +kernel
theorem dX5_putCheaply_11 : decode cX5_putCheaply 11 = .ok (.getfield 132, 3) := by decide +kernel
theorem dX5_putCheaply_14 : decode cX5_putCheaply 14 = .ok (.if_icmp .ge 50, 3) := by decide +kernel
theorem dX5_putCheaply_17 : decode cX5_putCheaply 17 = .ok (.aload_n 0, 1) := by decide +kernel
theorem dX5_putCheaply_18 : decode cX5_putCheaply 18 = .ok (.getfield 9, 3) := by decide +kernel
theorem dX5_putCheaply_21 : decode cX5_putCheaply 21 = .ok (.iload_n 2, 1) := by decide +kernel
theorem dX5_putCheaply_22 : decode cX5_putCheaply 22 = .ok (.iload 5, 2) := by decide +kernel
theorem dX5_putCheaply_24 : decode cX5_putCheaply 24 = .ok (.iastore, 1) := by decide +kernel
theorem dX5_putCheaply_25 : decode cX5_putCheaply 25 = .ok (.aload_n 0, 1) := by decide +kernel
theorem dX5_putCheaply_26 : decode cX5_putCheaply 26 = .ok (.aload_n 1, 1) := by decide +kernel
theorem dX5_putCheaply_27 : decode cX5_putCheaply 27 = .ok (.invokevirtual 54, 3) := by decide +kernel
theorem dX5_putCheaply_30 : decode cX5_putCheaply 30 = .ok (.istore 6, 2) := by decide +kernel
theorem dX5_putCheaply_32 : decode cX5_putCheaply 32 = .ok (.iload 6, 2) := by decide +kernel
theorem dX5_putCheaply_34 : decode cX5_putCheaply 34 = .ok (.iconst (-1), 1) := by decide +kernel
theorem dX5_putCheaply_35 : decode cX5_putCheaply 35 = .ok (.if_icmp .eq 23, 3) := by decide +kernel
theorem dX5_putCheaply_38 : decode cX5_putCheaply 38 = .ok (.iload 4, 2) := by decide +kernel
theorem dX5_putCheaply_40 : decode cX5_putCheaply 40 = .ok (.iconst (-1), 1) := by decide +kernel
theorem dX5_putCheaply_41 : decode cX5_putCheaply 41 = .ok (.if_icmp .eq 10, 3) := by decide +kernel
theorem dX5_putCheaply_44 : decode cX5_putCheaply 44 = .ok (.iload 6, 2) := by decide +kernel
theorem dX5_putCheaply_46 : decode cX5_putCheaply 46 = .ok (.iload 4, 2) := by decide +kernel
theorem dX5_putCheaply_48 : decode cX5_putCheaply 48 = .ok (.if_icmp .ge 10, 3) := by decide +kernel
theorem dX5_putCheaply_51 : decode cX5_putCheaply 51 = .ok (.iload 6, 2) := by decide +kernel
theorem dX5_putCheaply_53 : decode cX5_putCheaply 53 = .ok (.istore 4, 2) := by decide +kernel
theorem dX5_putCheaply_55 : decode cX5_putCheaply 55 = .ok (.iload 5, 2) := by decide +kernel
theorem dX5_putCheaply_57 : decode cX5_putCheaply 57 = .ok (.istore_n 3, 1) := by decide +kernel
theorem dX5_putCheaply_58 : decode cX5_putCheaply 58 = .ok (.iinc 5 1, 3) := by decide +kernel
theorem dX5_putCheaply_61 : decode cX5_putCheaply 61 = .ok (.goto (-53), 3) := by decide +kernel
theorem dX5_putCheaply_64 : decode cX5_putCheaply 64 = .ok (.aload_n 0, 1) := by decide +kernel
theorem dX5_putCheaply_65 : decode cX5_putCheaply 65 = .ok (.getfield 9, 3) := by decide +kernel
theorem dX5_putCheaply_68 : decode cX5_putCheaply 68 = .ok (.iload_n 2, 1) := by decide +kernel
theorem dX5_putCheaply_69 : decode cX5_putCheaply 69 = .ok (.iload_n 3, 1) := by decide +kernel
theorem dX5_putCheaply_70 : decode cX5_putCheaply 70 = .ok (.iastore, 1) := by decide +kernel
theorem dX5_putCheaply_71 : decode cX5_putCheaply 71 = .ok (.iload_n 3, 1) := by decide +kernel
theorem dX5_putCheaply_72 : decode cX5_putCheaply 72 = .ok (.iconst (-1), 1) := by decide +kernel
theorem dX5_putCheaply_73 : decode cX5_putCheaply 73 = .ok (.if_icmp .eq 7, 3) := by decide +kernel
theorem dX5_putCheaply_76 : decode cX5_putCheaply 76 = .ok (.iconst 1, 1) := by decide +kernel
theorem dX5_putCheaply_77 : decode cX5_putCheaply 77 = .ok (.goto 4, 3) := by decide +kernel
theorem dX5_putCheaply_80 : decode cX5_putCheaply 80 = .ok (.iconst 0, 1) := by decide +kernel
theorem dX5_putCheaply_81 : decode cX5_putCheaply 81 = .ok (.ireturn, 1) := by decide +kernel
theorem dX5_reach_0 : decode cX5_reach 0 = .ok (.iload_n 1, 1) := by decide +kernel
theorem dX5_reach_1 : decode cX5_reach 1 = .ok (.ifCond .lt 20, 3) := by decide +kernel
theorem dX5_reach_4 : decode cX5_reach 4 = .ok (.iload_n 1, 1) := by decide +kernel
theorem dX5_reach_5 : decode cX5_reach 5 = .ok (.sipush 1296, 3) := by decide +kernel
theorem dX5_reach_8 : decode cX5_reach 8 = .ok (.if_icmp .ge 13, 3) := by decide +kernel
theorem dX5_reach_11 : decode cX5_reach 11 = .ok (.aload_n 0, 1) := by decide +kernel
theorem dX5_reach_12 : decode cX5_reach 12 = .ok (.getfield 33, 3) := by decide +kernel
theorem dX5_reach_15 : decode cX5_reach 15 = .ok (.iload_n 1, 1) := by decide +kernel
theorem dX5_reach_16 : decode cX5_reach 16 = .ok (.iaload, 1) := by decide +kernel
theorem dX5_reach_17 : decode cX5_reach 17 = .ok (.iconst (-1), 1) := by decide +kernel
theorem dX5_reach_18 : decode cX5_reach 18 = .ok (.if_icmp .eq 7, 3) := by decide +kernel
theorem dX5_reach_21 : decode cX5_reach 21 = .ok (.iconst 1, 1) := by decide +kernel
theorem dX5_reach_22 : decode cX5_reach 22 = .ok (.goto 4, 3) := by decide +kernel
theorem dX5_reach_25 : decode cX5_reach 25 = .ok (.iconst 0, 1) := by decide +kernel
theorem dX5_reach_26 : decode cX5_reach 26 = .ok (.istore_n 3, 1) := by decide +kernel
theorem dX5_reach_27 : decode cX5_reach 27 = .ok (.iload_n 3, 1) := by decide +kernel
theorem dX5_reach_28 : decode cX5_reach 28 = .ok (.ifCond .ne 13, 3) := by decide +kernel
theorem dX5_reach_31 : decode cX5_reach 31 = .ok (.aload_n 0, 1) := by decide +kernel
theorem dX5_reach_32 : decode cX5_reach 32 = .ok (.getfield 85, 3) := by decide +kernel
theorem dX5_reach_35 : decode cX5_reach 35 = .ok (.sipush 1296, 3) := by decide +kernel
theorem dX5_reach_38 : decode cX5_reach 38 = .ok (.if_icmp .lt 4, 3) := by decide +kernel
theorem dX5_reach_41 : decode cX5_reach 41 = .ok (.return_, 1) := by decide +kernel
theorem dX5_reach_42 : decode cX5_reach 42 = .ok (.aload_n 0, 1) := by decide +kernel
theorem dX5_reach_43 : decode cX5_reach 43 = .ok (.getfield 33, 3) := by decide +kernel
theorem dX5_reach_46 : decode cX5_reach 46 = .ok (.iload_n 1, 1) := by decide +kernel
theorem dX5_reach_47 : decode cX5_reach 47 = .ok (.iload_n 2, 1) := by decide +kernel
theorem dX5_reach_48 : decode cX5_reach 48 = .ok (.iastore, 1) := by decide +kernel
theorem dX5_reach_49 : decode cX5_reach 49 = .ok (.aload_n 0, 1) := by decide +kernel
theorem dX5_reach_50 : decode cX5_reach 50 = .ok (.getfield 36, 3) := by decide +kernel
theorem dX5_reach_53 : decode cX5_reach 53 = .ok (.aload_n 0, 1) := by decide +kernel
theorem dX5_reach_54 : decode cX5_reach 54 = .ok (.getfield 85, 3) := by decide +kernel
theorem dX5_reach_57 : decode cX5_reach 57 = .ok (.iload_n 1, 1) := by decide +kernel
theorem dX5_reach_58 : decode cX5_reach 58 = .ok (.iastore, 1) := by decide +kernel
theorem dX5_reach_59 : decode cX5_reach 59 = .ok (.aload_n 0, 1) := by decide +kernel
theorem dX5_reach_60 : decode cX5_reach 60 = .ok (.dup, 1) := by decide +kernel
theorem dX5_reach_61 : decode cX5_reach 61 = .ok (.getfield 85, 3) := by decide +kernel
theorem dX5_reach_64 : decode cX5_reach 64 = .ok (.iconst 1, 1) := by decide +kernel
theorem dX5_reach_65 : decode cX5_reach 65 = .ok (.iadd, 1) := by decide +kernel
theorem dX5_reach_66 : decode cX5_reach 66 = .ok (.putfield 85, 3) := by decide +kernel
theorem dX5_reach_69 : decode cX5_reach 69 = .ok (.return_, 1) := by decide +kernel
theorem dX5_reachNeighbours_0 : decode cX5_reachNeighbours 0 = .ok (.iconst 1, 1) := by decide +kernel
theorem dX5_reachNeighbours_1 : decode cX5_reachNeighbours 1 = .ok (.istore_n 3, 1) := by decide +kernel
theorem dX5_reachNeighbours_2 : decode cX5_reachNeighbours 2 = .ok (.aload_n 1, 1) := by decide +kernel
theorem dX5_reachNeighbours_3 : decode cX5_reachNeighbours 3 = .ok (.getfield 69, 3) := by decide +kernel
theorem dX5_reachNeighbours_6 : decode cX5_reachNeighbours 6 = .ok (.iconst 1, 1) := by decide +kernel
theorem dX5_reachNeighbours_7 : decode cX5_reachNeighbours 7 = .ok (.isub, 1) := by decide +kernel
theorem dX5_reachNeighbours_8 : decode cX5_reachNeighbours 8 = .ok (.istore 4, 2) := by decide +kernel
theorem dX5_reachNeighbours_10 : decode cX5_reachNeighbours 10 = .ok (.iload 4, 2) := by decide +kernel
theorem dX5_reachNeighbours_12 : decode cX5_reachNeighbours 12 = .ok (.ifCond .lt 100, 3) := by decide +kernel
theorem dX5_reachNeighbours_15 : decode cX5_reachNeighbours 15 = .ok (.aload_n 1, 1) := by decide +kernel
theorem dX5_reachNeighbours_16 : decode cX5_reachNeighbours 16 = .ok (.getfield 132, 3) := by decide +kernel
theorem dX5_reachNeighbours_19 : decode cX5_reachNeighbours 19 = .ok (.ifCond .le 93, 3) := by decide +kernel
theorem dX5_reachNeighbours_22 : decode cX5_reachNeighbours 22 = .ok (.iload_n 2, 1) := by decide +kernel
theorem dX5_reachNeighbours_23 : decode cX5_reachNeighbours 23 = .ok (.iload_n 3, 1) := by decide +kernel
theorem dX5_reachNeighbours_24 : decode cX5_reachNeighbours 24 = .ok (.idiv, 1) := by decide +kernel
theorem dX5_reachNeighbours_25 : decode cX5_reachNeighbours 25 = .ok (.aload_n 1, 1) := by decide +kernel
theorem dX5_reachNeighbours_26 : decode cX5_reachNeighbours 26 = .ok (.getfield 132, 3) := by decide +kernel
theorem dX5_reachNeighbours_29 : decode cX5_reachNeighbours 29 = .ok (.irem, 1) := by decide +kernel
theorem dX5_reachNeighbours_30 : decode cX5_reachNeighbours 30 = .ok (.istore 5, 2) := by decide +kernel
theorem dX5_reachNeighbours_32 : decode cX5_reachNeighbours 32 = .ok (.iconst 0, 1) := by decide +kernel
theorem dX5_reachNeighbours_33 : decode cX5_reachNeighbours 33 = .ok (.istore 6, 2) := by decide +kernel
theorem dX5_reachNeighbours_35 : decode cX5_reachNeighbours 35 = .ok (.iload 6, 2) := by decide +kernel
theorem dX5_reachNeighbours_37 : decode cX5_reachNeighbours 37 = .ok (.aload_n 1, 1) := by decide +kernel
theorem dX5_reachNeighbours_38 : decode cX5_reachNeighbours 38 = .ok (.getfield 132, 3) := by decide +kernel
theorem dX5_reachNeighbours_41 : decode cX5_reachNeighbours 41 = .ok (.if_icmp .ge 58, 3) := by decide +kernel
theorem dX5_reachNeighbours_44 : decode cX5_reachNeighbours 44 = .ok (.iload_n 2, 1) := by decide +kernel
theorem dX5_reachNeighbours_45 : decode cX5_reachNeighbours 45 = .ok (.iload 6, 2) := by decide +kernel
theorem dX5_reachNeighbours_47 : decode cX5_reachNeighbours 47 = .ok (.iload 5, 2) := by decide +kernel
theorem dX5_reachNeighbours_49 : decode cX5_reachNeighbours 49 = .ok (.isub, 1) := by decide +kernel
theorem dX5_reachNeighbours_50 : decode cX5_reachNeighbours 50 = .ok (.iload_n 3, 1) := by decide +kernel
theorem dX5_reachNeighbours_51 : decode cX5_reachNeighbours 51 = .ok (.imul, 1) := by decide +kernel
theorem dX5_reachNeighbours_52 : decode cX5_reachNeighbours 52 = .ok (.iadd, 1) := by decide +kernel
theorem dX5_reachNeighbours_53 : decode cX5_reachNeighbours 53 = .ok (.istore 7, 2) := by decide +kernel
theorem dX5_reachNeighbours_55 : decode cX5_reachNeighbours 55 = .ok (.iload 7, 2) := by decide +kernel
theorem dX5_reachNeighbours_57 : decode cX5_reachNeighbours 57 = .ok (.ifCond .lt 36, 3) := by decide +kernel
theorem dX5_reachNeighbours_60 : decode cX5_reachNeighbours 60 = .ok (.iload 7, 2) := by decide +kernel
theorem dX5_reachNeighbours_62 : decode cX5_reachNeighbours 62 = .ok (.sipush 1296, 3) := by decide +kernel
theorem dX5_reachNeighbours_65 : decode cX5_reachNeighbours 65 = .ok (.if_icmp .ge 28, 3) := by decide +kernel
theorem dX5_reachNeighbours_68 : decode cX5_reachNeighbours 68 = .ok (.aload_n 0, 1) := by decide +kernel
theorem dX5_reachNeighbours_69 : decode cX5_reachNeighbours 69 = .ok (.getfield 30, 3) := by decide +kernel
theorem dX5_reachNeighbours_72 : decode cX5_reachNeighbours 72 = .ok (.iload 7, 2) := by decide +kernel
theorem dX5_reachNeighbours_74 : decode cX5_reachNeighbours 74 = .ok (.iaload, 1) := by decide +kernel
theorem dX5_reachNeighbours_75 : decode cX5_reachNeighbours 75 = .ok (.iconst (-1), 1) := by decide +kernel
theorem dX5_reachNeighbours_76 : decode cX5_reachNeighbours 76 = .ok (.if_icmp .eq 17, 3) := by decide +kernel
theorem dX5_reachNeighbours_79 : decode cX5_reachNeighbours 79 = .ok (.aload_n 0, 1) := by decide +kernel
theorem dX5_reachNeighbours_80 : decode cX5_reachNeighbours 80 = .ok (.iload 7, 2) := by decide +kernel
theorem dX5_reachNeighbours_82 : decode cX5_reachNeighbours 82 = .ok (.aload_n 0, 1) := by decide +kernel
theorem dX5_reachNeighbours_83 : decode cX5_reachNeighbours 83 = .ok (.getfield 33, 3) := by decide +kernel
theorem dX5_reachNeighbours_86 : decode cX5_reachNeighbours 86 = .ok (.iload_n 2, 1) := by decide +kernel
theorem dX5_reachNeighbours_87 : decode cX5_reachNeighbours 87 = .ok (.iaload, 1) := by decide +kernel
theorem dX5_reachNeighbours_88 : decode cX5_reachNeighbours 88 = .ok (.iconst 1, 1) := by decide +kernel
theorem dX5_reachNeighbours_89 : decode cX5_reachNeighbours 89 = .ok (.iadd, 1) := by decide +kernel
theorem dX5_reachNeighbours_90 : decode cX5_reachNeighbours 90 = .ok (.invokevirtual 92, 3) := by decide +kernel
theorem dX5_reachNeighbours_93 : decode cX5_reachNeighbours 93 = .ok (.iinc 6 1, 3) := by decide +kernel
theorem dX5_reachNeighbours_96 : decode cX5_reachNeighbours 96 = .ok (.goto (-61), 3) := by decide +kernel
theorem dX5_reachNeighbours_99 : decode cX5_reachNeighbours 99 = .ok (.iload_n 3, 1) := by decide +kernel
theorem dX5_reachNeighbours_100 : decode cX5_reachNeighbours 100 = .ok (.aload_n 1, 1) := by decide +kernel
theorem dX5_reachNeighbours_101 : decode cX5_reachNeighbours 101 = .ok (.getfield 132, 3) := by decide +kernel
theorem dX5_reachNeighbours_104 : decode cX5_reachNeighbours 104 = .ok (.imul, 1) := by decide +kernel
theorem dX5_reachNeighbours_105 : decode cX5_reachNeighbours 105 = .ok (.istore_n 3, 1) := by decide +kernel
theorem dX5_reachNeighbours_106 : decode cX5_reachNeighbours 106 = .ok (.iinc 4 (-1), 3) := by decide +kernel
theorem dX5_reachNeighbours_109 : decode cX5_reachNeighbours 109 = .ok (.goto (-99), 3) := by decide +kernel
theorem dX5_reachNeighbours_112 : decode cX5_reachNeighbours 112 = .ok (.return_, 1) := by decide +kernel
theorem dX5_partOf_0 : decode cX5_partOf 0 = .ok (.ldc2_w 164, 3) := by decide +kernel
theorem dX5_partOf_3 : decode cX5_partOf 3 = .ok (.lstore 5, 2) := by decide +kernel
theorem dX5_partOf_5 : decode cX5_partOf 5 = .ok (.iconst 0, 1) := by decide +kernel
theorem dX5_partOf_6 : decode cX5_partOf 6 = .ok (.istore 7, 2) := by decide +kernel
theorem dX5_partOf_8 : decode cX5_partOf 8 = .ok (.iload 7, 2) := by decide +kernel
theorem dX5_partOf_10 : decode cX5_partOf 10 = .ok (.aload_n 1, 1) := by decide +kernel
theorem dX5_partOf_11 : decode cX5_partOf 11 = .ok (.getfield 69, 3) := by decide +kernel
theorem dX5_partOf_14 : decode cX5_partOf 14 = .ok (.if_icmp .ge 57, 3) := by decide +kernel
theorem dX5_partOf_17 : decode cX5_partOf 17 = .ok (.aload_n 2, 1) := by decide +kernel
theorem dX5_partOf_18 : decode cX5_partOf 18 = .ok (.iload 7, 2) := by decide +kernel
theorem dX5_partOf_20 : decode cX5_partOf 20 = .ok (.invokevirtual 118, 3) := by decide +kernel
theorem dX5_partOf_23 : decode cX5_partOf 23 = .ok (.ifCond .eq 8, 3) := by decide +kernel
theorem dX5_partOf_26 : decode cX5_partOf 26 = .ok (.lload 5, 2) := by decide +kernel
theorem dX5_partOf_28 : decode cX5_partOf 28 = .ok (.goto 13, 3) := by decide +kernel
theorem dX5_partOf_31 : decode cX5_partOf 31 = .ok (.lload 5, 2) := by decide +kernel
theorem dX5_partOf_33 : decode cX5_partOf 33 = .ok (.iload 4, 2) := by decide +kernel
theorem dX5_partOf_35 : decode cX5_partOf 35 = .ok (.i2l, 1) := by decide +kernel
theorem dX5_partOf_36 : decode cX5_partOf 36 = .ok (.lmul, 1) := by decide +kernel
theorem dX5_partOf_37 : decode cX5_partOf 37 = .ok (.ldc2_w 166, 3) := by decide +kernel
theorem dX5_partOf_40 : decode cX5_partOf 40 = .ok (.ldiv, 1) := by decide +kernel
theorem dX5_partOf_41 : decode cX5_partOf 41 = .ok (.lstore 8, 2) := by decide +kernel
theorem dX5_partOf_43 : decode cX5_partOf 43 = .ok (.iload_n 3, 1) := by decide +kernel
theorem dX5_partOf_44 : decode cX5_partOf 44 = .ok (.iload 7, 2) := by decide +kernel
theorem dX5_partOf_46 : decode cX5_partOf 46 = .ok (.invokestatic 168, 3) := by decide +kernel
theorem dX5_partOf_49 : decode cX5_partOf 49 = .ok (.iconst 1, 1) := by decide +kernel
theorem dX5_partOf_50 : decode cX5_partOf 50 = .ok (.if_icmp .ne 8, 3) := by decide +kernel
theorem dX5_partOf_53 : decode cX5_partOf 53 = .ok (.lload 8, 2) := by decide +kernel
theorem dX5_partOf_55 : decode cX5_partOf 55 = .ok (.goto 8, 3) := by decide +kernel
theorem dX5_partOf_58 : decode cX5_partOf 58 = .ok (.lload 5, 2) := by decide +kernel
theorem dX5_partOf_60 : decode cX5_partOf 60 = .ok (.lload 8, 2) := by decide +kernel
theorem dX5_partOf_62 : decode cX5_partOf 62 = .ok (.lsub, 1) := by decide +kernel
theorem dX5_partOf_63 : decode cX5_partOf 63 = .ok (.lstore 5, 2) := by decide +kernel
theorem dX5_partOf_65 : decode cX5_partOf 65 = .ok (.iinc 7 1, 3) := by decide +kernel
theorem dX5_partOf_68 : decode cX5_partOf 68 = .ok (.goto (-60), 3) := by decide +kernel
theorem dX5_partOf_71 : decode cX5_partOf 71 = .ok (.lload 5, 2) := by decide +kernel
theorem dX5_partOf_73 : decode cX5_partOf 73 = .ok (.l2i, 1) := by decide +kernel
theorem dX5_partOf_74 : decode cX5_partOf 74 = .ok (.ireturn, 1) := by decide +kernel
theorem dX5_someWayFits_0 : decode cX5_someWayFits 0 = .ok (.aload_n 0, 1) := by decide +kernel
theorem dX5_someWayFits_1 : decode cX5_someWayFits 1 = .ok (.aload_n 1, 1) := by decide +kernel
theorem dX5_someWayFits_2 : decode cX5_someWayFits 2 = .ok (.aload_n 2, 1) := by decide +kernel
theorem dX5_someWayFits_3 : decode cX5_someWayFits 3 = .ok (.invokevirtual 39, 3) := by decide +kernel
theorem dX5_someWayFits_6 : decode cX5_someWayFits 6 = .ok (.iconst 0, 1) := by decide +kernel
theorem dX5_someWayFits_7 : decode cX5_someWayFits 7 = .ok (.istore 4, 2) := by decide +kernel
theorem dX5_someWayFits_9 : decode cX5_someWayFits 9 = .ok (.iload 4, 2) := by decide +kernel
theorem dX5_someWayFits_11 : decode cX5_someWayFits 11 = .ok (.aload_n 1, 1) := by decide +kernel
theorem dX5_someWayFits_12 : decode cX5_someWayFits 12 = .ok (.getfield 69, 3) := by decide +kernel
theorem dX5_someWayFits_15 : decode cX5_someWayFits 15 = .ok (.if_icmp .ge 36, 3) := by decide +kernel
theorem dX5_someWayFits_18 : decode cX5_someWayFits 18 = .ok (.aload_n 0, 1) := by decide +kernel
theorem dX5_someWayFits_19 : decode cX5_someWayFits 19 = .ok (.getfield 18, 3) := by decide +kernel
theorem dX5_someWayFits_22 : decode cX5_someWayFits 22 = .ok (.iload 4, 2) := by decide +kernel
theorem dX5_someWayFits_24 : decode cX5_someWayFits 24 = .ok (.iload_n 3, 1) := by decide +kernel
theorem dX5_someWayFits_25 : decode cX5_someWayFits 25 = .ok (.iload 4, 2) := by decide +kernel
theorem dX5_someWayFits_27 : decode cX5_someWayFits 27 = .ok (.invokestatic 168, 3) := by decide +kernel
theorem dX5_someWayFits_30 : decode cX5_someWayFits 30 = .ok (.iconst 1, 1) := by decide +kernel
theorem dX5_someWayFits_31 : decode cX5_someWayFits 31 = .ok (.if_icmp .ne 7, 3) := by decide +kernel
theorem dX5_someWayFits_34 : decode cX5_someWayFits 34 = .ok (.iconst 0, 1) := by decide +kernel
theorem dX5_someWayFits_35 : decode cX5_someWayFits 35 = .ok (.goto 9, 3) := by decide +kernel
theorem dX5_someWayFits_38 : decode cX5_someWayFits 38 = .ok (.aload_n 1, 1) := by decide +kernel
theorem dX5_someWayFits_39 : decode cX5_someWayFits 39 = .ok (.iload 4, 2) := by decide +kernel
theorem dX5_someWayFits_41 : decode cX5_someWayFits 41 = .ok (.invokevirtual 122, 3) := by decide +kernel
theorem dX5_someWayFits_44 : decode cX5_someWayFits 44 = .ok (.iastore, 1) := by decide +kernel
theorem dX5_someWayFits_45 : decode cX5_someWayFits 45 = .ok (.iinc 4 1, 3) := by decide +kernel
theorem dX5_someWayFits_48 : decode cX5_someWayFits 48 = .ok (.goto (-39), 3) := by decide +kernel
theorem dX5_someWayFits_51 : decode cX5_someWayFits 51 = .ok (.aload_n 0, 1) := by decide +kernel
theorem dX5_someWayFits_52 : decode cX5_someWayFits 52 = .ok (.aload_n 1, 1) := by decide +kernel
theorem dX5_someWayFits_53 : decode cX5_someWayFits 53 = .ok (.invokevirtual 62, 3) := by decide +kernel
theorem dX5_someWayFits_56 : decode cX5_someWayFits 56 = .ok (.istore 4, 2) := by decide +kernel
theorem dX5_someWayFits_58 : decode cX5_someWayFits 58 = .ok (.iconst 0, 1) := by decide +kernel
theorem dX5_someWayFits_59 : decode cX5_someWayFits 59 = .ok (.istore 5, 2) := by decide +kernel
theorem dX5_someWayFits_61 : decode cX5_someWayFits 61 = .ok (.iload 5, 2) := by decide +kernel
theorem dX5_someWayFits_63 : decode cX5_someWayFits 63 = .ok (.iload 4, 2) := by decide +kernel
theorem dX5_someWayFits_65 : decode cX5_someWayFits 65 = .ok (.if_icmp .ge 27, 3) := by decide +kernel
theorem dX5_someWayFits_68 : decode cX5_someWayFits 68 = .ok (.aload_n 0, 1) := by decide +kernel
theorem dX5_someWayFits_69 : decode cX5_someWayFits 69 = .ok (.aload_n 1, 1) := by decide +kernel
theorem dX5_someWayFits_70 : decode cX5_someWayFits 70 = .ok (.iload 5, 2) := by decide +kernel
theorem dX5_someWayFits_72 : decode cX5_someWayFits 72 = .ok (.invokevirtual 65, 3) := by decide +kernel
theorem dX5_someWayFits_75 : decode cX5_someWayFits 75 = .ok (.aload_n 0, 1) := by decide +kernel
theorem dX5_someWayFits_76 : decode cX5_someWayFits 76 = .ok (.aload_n 1, 1) := by decide +kernel
theorem dX5_someWayFits_77 : decode cX5_someWayFits 77 = .ok (.invokevirtual 54, 3) := by decide +kernel
theorem dX5_someWayFits_80 : decode cX5_someWayFits 80 = .ok (.iconst (-1), 1) := by decide +kernel
theorem dX5_someWayFits_81 : decode cX5_someWayFits 81 = .ok (.if_icmp .eq 5, 3) := by decide +kernel
theorem dX5_someWayFits_84 : decode cX5_someWayFits 84 = .ok (.iconst 1, 1) := by decide +kernel
theorem dX5_someWayFits_85 : decode cX5_someWayFits 85 = .ok (.ireturn, 1) := by decide +kernel
theorem dX5_someWayFits_86 : decode cX5_someWayFits 86 = .ok (.iinc 5 1, 3) := by decide +kernel
theorem dX5_someWayFits_89 : decode cX5_someWayFits 89 = .ok (.goto (-28), 3) := by decide +kernel
theorem dX5_someWayFits_92 : decode cX5_someWayFits 92 = .ok (.iconst 0, 1) := by decide +kernel
theorem dX5_someWayFits_93 : decode cX5_someWayFits 93 = .ok (.ireturn, 1) := by decide +kernel
theorem dX6_init_0 : decode cX6_init 0 = .ok (.aload_n 0, 1) := by decide +kernel
theorem dX6_init_1 : decode cX6_init 1 = .ok (.invokespecial 3, 3) := by decide +kernel
theorem dX6_init_4 : decode cX6_init 4 = .ok (.aload_n 0, 1) := by decide +kernel
theorem dX6_init_5 : decode cX6_init 5 = .ok (.bipush 12, 2) := by decide +kernel
theorem dX6_init_7 : decode cX6_init 7 = .ok (.anewarray 9, 3) := by decide +kernel
theorem dX6_init_10 : decode cX6_init 10 = .ok (.putfield 11, 3) := by decide +kernel
theorem dX6_init_13 : decode cX6_init 13 = .ok (.iconst 0, 1) := by decide +kernel
theorem dX6_init_14 : decode cX6_init 14 = .ok (.istore_n 1, 1) := by decide +kernel
theorem dX6_init_15 : decode cX6_init 15 = .ok (.iload_n 1, 1) := by decide +kernel
theorem dX6_init_16 : decode cX6_init 16 = .ok (.aload_n 0, 1) := by decide +kernel
theorem dX6_init_17 : decode cX6_init 17 = .ok (.getfield 11, 3) := by decide +kernel
theorem dX6_init_20 : decode cX6_init 20 = .ok (.arraylength, 1) := by decide +kernel
theorem dX6_init_21 : decode cX6_init 21 = .ok (.if_icmp .ge 22, 3) := by decide +kernel
theorem dX6_init_24 : decode cX6_init 24 = .ok (.aload_n 0, 1) := by decide +kernel
theorem dX6_init_25 : decode cX6_init 25 = .ok (.getfield 11, 3) := by decide +kernel
theorem dX6_init_28 : decode cX6_init 28 = .ok (.iload_n 1, 1) := by decide +kernel
theorem dX6_init_29 : decode cX6_init 29 = .ok (.new 9, 3) := by decide +kernel
theorem dX6_init_32 : decode cX6_init 32 = .ok (.dup, 1) := by decide +kernel
theorem dX6_init_33 : decode cX6_init 33 = .ok (.invokespecial 17, 3) := by decide +kernel
theorem dX6_init_36 : decode cX6_init 36 = .ok (.aastore, 1) := by decide +kernel
theorem dX6_init_37 : decode cX6_init 37 = .ok (.iinc 1 1, 3) := by decide +kernel
theorem dX6_init_40 : decode cX6_init 40 = .ok (.goto (-25), 3) := by decide +kernel
theorem dX6_init_43 : decode cX6_init 43 = .ok (.return_, 1) := by decide +kernel
theorem dX7_init_0 : decode cX7_init 0 = .ok (.aload_n 0, 1) := by decide +kernel
theorem dX7_init_1 : decode cX7_init 1 = .ok (.invokespecial 3, 3) := by decide +kernel
theorem dX7_init_4 : decode cX7_init 4 = .ok (.aload_n 0, 1) := by decide +kernel
theorem dX7_init_5 : decode cX7_init 5 = .ok (.iconst 4, 1) := by decide +kernel
theorem dX7_init_6 : decode cX7_init 6 = .ok (.newarray .int, 2) := by decide +kernel
theorem dX7_init_8 : decode cX7_init 8 = .ok (.putfield 9, 3) := by decide +kernel
theorem dX7_init_11 : decode cX7_init 11 = .ok (.aload_n 0, 1) := by decide +kernel
theorem dX7_init_12 : decode cX7_init 12 = .ok (.iconst 4, 1) := by decide +kernel
theorem dX7_init_13 : decode cX7_init 13 = .ok (.newarray .int, 2) := by decide +kernel
theorem dX7_init_15 : decode cX7_init 15 = .ok (.putfield 15, 3) := by decide +kernel
theorem dX7_init_18 : decode cX7_init 18 = .ok (.aload_n 0, 1) := by decide +kernel
theorem dX7_init_19 : decode cX7_init 19 = .ok (.iconst 4, 1) := by decide +kernel
theorem dX7_init_20 : decode cX7_init 20 = .ok (.newarray .int, 2) := by decide +kernel
theorem dX7_init_22 : decode cX7_init 22 = .ok (.putfield 18, 3) := by decide +kernel
theorem dX7_init_25 : decode cX7_init 25 = .ok (.aload_n 0, 1) := by decide +kernel
theorem dX7_init_26 : decode cX7_init 26 = .ok (.iconst 4, 1) := by decide +kernel
theorem dX7_init_27 : decode cX7_init 27 = .ok (.newarray .int, 2) := by decide +kernel
theorem dX7_init_29 : decode cX7_init 29 = .ok (.putfield 21, 3) := by decide +kernel
theorem dX7_init_32 : decode cX7_init 32 = .ok (.aload_n 0, 1) := by decide +kernel
theorem dX7_init_33 : decode cX7_init 33 = .ok (.iconst 3, 1) := by decide +kernel
theorem dX7_init_34 : decode cX7_init 34 = .ok (.newarray .int, 2) := by decide +kernel
theorem dX7_init_36 : decode cX7_init 36 = .ok (.putfield 24, 3) := by decide +kernel
theorem dX7_init_39 : decode cX7_init 39 = .ok (.aload_n 0, 1) := by decide +kernel
theorem dX7_init_40 : decode cX7_init 40 = .ok (.iconst 3, 1) := by decide +kernel
theorem dX7_init_41 : decode cX7_init 41 = .ok (.newarray .int, 2) := by decide +kernel
theorem dX7_init_43 : decode cX7_init 43 = .ok (.putfield 27, 3) := by decide +kernel
theorem dX7_init_46 : decode cX7_init 46 = .ok (.aload_n 0, 1) := by decide +kernel
theorem dX7_init_47 : decode cX7_init 47 = .ok (.iconst 3, 1) := by decide +kernel
theorem dX7_init_48 : decode cX7_init 48 = .ok (.newarray .int, 2) := by decide +kernel
theorem dX7_init_50 : decode cX7_init 50 = .ok (.putfield 30, 3) := by decide +kernel
theorem dX7_init_53 : decode cX7_init 53 = .ok (.aload_n 0, 1) := by decide +kernel
theorem dX7_init_54 : decode cX7_init 54 = .ok (.bipush 6, 2) := by decide +kernel
theorem dX7_init_56 : decode cX7_init 56 = .ok (.newarray .int, 2) := by decide +kernel
theorem dX7_init_58 : decode cX7_init 58 = .ok (.putfield 33, 3) := by decide +kernel
theorem dX7_init_61 : decode cX7_init 61 = .ok (.aload_n 0, 1) := by decide +kernel
theorem dX7_init_62 : decode cX7_init 62 = .ok (.bipush 7, 2) := by decide +kernel
theorem dX7_init_64 : decode cX7_init 64 = .ok (.newarray .long, 2) := by decide +kernel
theorem dX7_init_66 : decode cX7_init 66 = .ok (.putfield 36, 3) := by decide +kernel
theorem dX7_init_69 : decode cX7_init 69 = .ok (.aload_n 0, 1) := by decide +kernel
theorem dX7_init_70 : decode cX7_init 70 = .ok (.bipush 7, 2) := by decide +kernel
theorem dX7_init_72 : decode cX7_init 72 = .ok (.newarray .int, 2) := by decide +kernel
theorem dX7_init_74 : decode cX7_init 74 = .ok (.putfield 40, 3) := by decide +kernel
theorem dX7_init_77 : decode cX7_init 77 = .ok (.aload_n 0, 1) := by decide +kernel
theorem dX7_init_78 : decode cX7_init 78 = .ok (.bipush 7, 2) := by decide +kernel
theorem dX7_init_80 : decode cX7_init 80 = .ok (.newarray .int, 2) := by decide +kernel
theorem dX7_init_82 : decode cX7_init 82 = .ok (.putfield 43, 3) := by decide +kernel
theorem dX7_init_85 : decode cX7_init 85 = .ok (.aload_n 0, 1) := by decide +kernel
theorem dX7_init_86 : decode cX7_init 86 = .ok (.bipush 7, 2) := by decide +kernel
theorem dX7_init_88 : decode cX7_init 88 = .ok (.newarray .int, 2) := by decide +kernel
theorem dX7_init_90 : decode cX7_init 90 = .ok (.putfield 46, 3) := by decide +kernel
theorem dX7_init_93 : decode cX7_init 93 = .ok (.return_, 1) := by decide +kernel
theorem dX7_begin_0 : decode cX7_begin 0 = .ok (.aload_n 0, 1) := by decide +kernel
theorem dX7_begin_1 : decode cX7_begin 1 = .ok (.iconst 0, 1) := by decide +kernel
theorem dX7_begin_2 : decode cX7_begin 2 = .ok (.putfield 49, 3) := by decide +kernel
theorem dX7_begin_5 : decode cX7_begin 5 = .ok (.aload_n 0, 1) := by decide +kernel
theorem dX7_begin_6 : decode cX7_begin 6 = .ok (.iconst 0, 1) := by decide +kernel
theorem dX7_begin_7 : decode cX7_begin 7 = .ok (.putfield 53, 3) := by decide +kernel
theorem dX7_begin_10 : decode cX7_begin 10 = .ok (.aload_n 0, 1) := by decide +kernel
theorem dX7_begin_11 : decode cX7_begin 11 = .ok (.iconst 0, 1) := by decide +kernel
theorem dX7_begin_12 : decode cX7_begin 12 = .ok (.putfield 56, 3) := by decide +kernel
theorem dX7_begin_15 : decode cX7_begin 15 = .ok (.aload_n 0, 1) := by decide +kernel
theorem dX7_begin_16 : decode cX7_begin 16 = .ok (.iconst 0, 1) := by decide +kernel
theorem dX7_begin_17 : decode cX7_begin 17 = .ok (.putfield 59, 3) := by decide +kernel
theorem dX7_begin_20 : decode cX7_begin 20 = .ok (.aload_n 0, 1) := by decide +kernel
theorem dX7_begin_21 : decode cX7_begin 21 = .ok (.iconst 0, 1) := by decide +kernel
theorem dX7_begin_22 : decode cX7_begin 22 = .ok (.putfield 62, 3) := by decide +kernel
theorem dX7_begin_25 : decode cX7_begin 25 = .ok (.aload_n 0, 1) := by decide +kernel
theorem dX7_begin_26 : decode cX7_begin 26 = .ok (.iconst 0, 1) := by decide +kernel
theorem dX7_begin_27 : decode cX7_begin 27 = .ok (.putfield 65, 3) := by decide +kernel
theorem dX7_begin_30 : decode cX7_begin 30 = .ok (.aload_n 0, 1) := by decide +kernel
theorem dX7_begin_31 : decode cX7_begin 31 = .ok (.iconst 0, 1) := by decide +kernel
theorem dX7_begin_32 : decode cX7_begin 32 = .ok (.putfield 68, 3) := by decide +kernel
theorem dX7_begin_35 : decode cX7_begin 35 = .ok (.iconst 0, 1) := by decide +kernel
theorem dX7_begin_36 : decode cX7_begin 36 = .ok (.istore_n 1, 1) := by decide +kernel
theorem dX7_begin_37 : decode cX7_begin 37 = .ok (.iload_n 1, 1) := by decide +kernel
theorem dX7_begin_38 : decode cX7_begin 38 = .ok (.iconst 4, 1) := by decide +kernel
theorem dX7_begin_39 : decode cX7_begin 39 = .ok (.if_icmp .ge 37, 3) := by decide +kernel
theorem dX7_begin_42 : decode cX7_begin 42 = .ok (.aload_n 0, 1) := by decide +kernel
theorem dX7_begin_43 : decode cX7_begin 43 = .ok (.getfield 9, 3) := by decide +kernel
theorem dX7_begin_46 : decode cX7_begin 46 = .ok (.iload_n 1, 1) := by decide +kernel
theorem dX7_begin_47 : decode cX7_begin 47 = .ok (.iconst 0, 1) := by decide +kernel
theorem dX7_begin_48 : decode cX7_begin 48 = .ok (.iastore, 1) := by decide +kernel
theorem dX7_begin_49 : decode cX7_begin 49 = .ok (.aload_n 0, 1) := by decide +kernel
theorem dX7_begin_50 : decode cX7_begin 50 = .ok (.getfield 15, 3) := by decide +kernel
theorem dX7_begin_53 : decode cX7_begin 53 = .ok (.iload_n 1, 1) := by decide +kernel
theorem dX7_begin_54 : decode cX7_begin 54 = .ok (.iconst 0, 1) := by decide +kernel
theorem dX7_begin_55 : decode cX7_begin 55 = .ok (.iastore, 1) := by decide +kernel
theorem dX7_begin_56 : decode cX7_begin 56 = .ok (.aload_n 0, 1) := by decide +kernel
theorem dX7_begin_57 : decode cX7_begin 57 = .ok (.getfield 18, 3) := by decide +kernel
theorem dX7_begin_60 : decode cX7_begin 60 = .ok (.iload_n 1, 1) := by decide +kernel
theorem dX7_begin_61 : decode cX7_begin 61 = .ok (.iconst 0, 1) := by decide +kernel
theorem dX7_begin_62 : decode cX7_begin 62 = .ok (.iastore, 1) := by decide +kernel
theorem dX7_begin_63 : decode cX7_begin 63 = .ok (.aload_n 0, 1) := by decide +kernel
theorem dX7_begin_64 : decode cX7_begin 64 = .ok (.getfield 21, 3) := by decide +kernel
theorem dX7_begin_67 : decode cX7_begin 67 = .ok (.iload_n 1, 1) := by decide +kernel
theorem dX7_begin_68 : decode cX7_begin 68 = .ok (.iconst 0, 1) := by decide +kernel
theorem dX7_begin_69 : decode cX7_begin 69 = .ok (.iastore, 1) := by decide +kernel
theorem dX7_begin_70 : decode cX7_begin 70 = .ok (.iinc 1 1, 3) := by decide +kernel
theorem dX7_begin_73 : decode cX7_begin 73 = .ok (.goto (-36), 3) := by decide +kernel
theorem dX7_begin_76 : decode cX7_begin 76 = .ok (.iconst 0, 1) := by decide +kernel
theorem dX7_begin_77 : decode cX7_begin 77 = .ok (.istore_n 1, 1) := by decide +kernel
theorem dX7_begin_78 : decode cX7_begin 78 = .ok (.iload_n 1, 1) := by decide +kernel
theorem dX7_begin_79 : decode cX7_begin 79 = .ok (.iconst 3, 1) := by decide +kernel
theorem dX7_begin_80 : decode cX7_begin 80 = .ok (.if_icmp .ge 30, 3) := by decide +kernel
theorem dX7_begin_83 : decode cX7_begin 83 = .ok (.aload_n 0, 1) := by decide +kernel
theorem dX7_begin_84 : decode cX7_begin 84 = .ok (.getfield 24, 3) := by decide +kernel
theorem dX7_begin_87 : decode cX7_begin 87 = .ok (.iload_n 1, 1) := by decide +kernel
theorem dX7_begin_88 : decode cX7_begin 88 = .ok (.iconst 0, 1) := by decide +kernel
theorem dX7_begin_89 : decode cX7_begin 89 = .ok (.iastore, 1) := by decide +kernel
theorem dX7_begin_90 : decode cX7_begin 90 = .ok (.aload_n 0, 1) := by decide +kernel
theorem dX7_begin_91 : decode cX7_begin 91 = .ok (.getfield 27, 3) := by decide +kernel
theorem dX7_begin_94 : decode cX7_begin 94 = .ok (.iload_n 1, 1) := by decide +kernel
theorem dX7_begin_95 : decode cX7_begin 95 = .ok (.iconst 0, 1) := by decide +kernel
theorem dX7_begin_96 : decode cX7_begin 96 = .ok (.iastore, 1) := by decide +kernel
theorem dX7_begin_97 : decode cX7_begin 97 = .ok (.aload_n 0, 1) := by decide +kernel
theorem dX7_begin_98 : decode cX7_begin 98 = .ok (.getfield 30, 3) := by decide +kernel
theorem dX7_begin_101 : decode cX7_begin 101 = .ok (.iload_n 1, 1) := by decide +kernel
theorem dX7_begin_102 : decode cX7_begin 102 = .ok (.iconst 0, 1) := by decide +kernel
theorem dX7_begin_103 : decode cX7_begin 103 = .ok (.iastore, 1) := by decide +kernel
theorem dX7_begin_104 : decode cX7_begin 104 = .ok (.iinc 1 1, 3) := by decide +kernel
theorem dX7_begin_107 : decode cX7_begin 107 = .ok (.goto (-29), 3) := by decide +kernel
theorem dX7_begin_110 : decode cX7_begin 110 = .ok (.iconst 0, 1) := by decide +kernel
theorem dX7_begin_111 : decode cX7_begin 111 = .ok (.istore_n 1, 1) := by decide +kernel
theorem dX7_begin_112 : decode cX7_begin 112 = .ok (.iload_n 1, 1) := by decide +kernel
theorem dX7_begin_113 : decode cX7_begin 113 = .ok (.bipush 6, 2) := by decide +kernel
theorem dX7_begin_115 : decode cX7_begin 115 = .ok (.if_icmp .ge 16, 3) := by decide +kernel
theorem dX7_begin_118 : decode cX7_begin 118 = .ok (.aload_n 0, 1) := by decide +kernel
theorem dX7_begin_119 : decode cX7_begin 119 = .ok (.getfield 33, 3) := by decide +kernel
theorem dX7_begin_122 : decode cX7_begin 122 = .ok (.iload_n 1, 1) := by decide +kernel
theorem dX7_begin_123 : decode cX7_begin 123 = .ok (.iconst 0, 1) := by decide +kernel
theorem dX7_begin_124 : decode cX7_begin 124 = .ok (.iastore, 1) := by decide +kernel
theorem dX7_begin_125 : decode cX7_begin 125 = .ok (.iinc 1 1, 3) := by decide +kernel
theorem dX7_begin_128 : decode cX7_begin 128 = .ok (.goto (-16), 3) := by decide +kernel
theorem dX7_begin_131 : decode cX7_begin 131 = .ok (.return_, 1) := by decide +kernel
theorem dX7_copyFrom_0 : decode cX7_copyFrom 0 = .ok (.aload_n 0, 1) := by decide +kernel
theorem dX7_copyFrom_1 : decode cX7_copyFrom 1 = .ok (.aload_n 1, 1) := by decide +kernel
theorem dX7_copyFrom_2 : decode cX7_copyFrom 2 = .ok (.getfield 49, 3) := by decide +kernel
theorem dX7_copyFrom_5 : decode cX7_copyFrom 5 = .ok (.putfield 49, 3) := by decide +kernel
theorem dX7_copyFrom_8 : decode cX7_copyFrom 8 = .ok (.aload_n 0, 1) := by decide +kernel
theorem dX7_copyFrom_9 : decode cX7_copyFrom 9 = .ok (.aload_n 1, 1) := by decide +kernel
theorem dX7_copyFrom_10 : decode cX7_copyFrom 10 = .ok (.getfield 53, 3) := by decide +kernel
theorem dX7_copyFrom_13 : decode cX7_copyFrom 13 = .ok (.putfield 53, 3) := by decide +kernel
theorem dX7_copyFrom_16 : decode cX7_copyFrom 16 = .ok (.aload_n 0, 1) := by decide +kernel
theorem dX7_copyFrom_17 : decode cX7_copyFrom 17 = .ok (.aload_n 1, 1) := by decide +kernel
theorem dX7_copyFrom_18 : decode cX7_copyFrom 18 = .ok (.getfield 56, 3) := by decide +kernel
theorem dX7_copyFrom_21 : decode cX7_copyFrom 21 = .ok (.putfield 56, 3) := by decide +kernel
theorem dX7_copyFrom_24 : decode cX7_copyFrom 24 = .ok (.aload_n 0, 1) := by decide +kernel
theorem dX7_copyFrom_25 : decode cX7_copyFrom 25 = .ok (.aload_n 1, 1) := by decide +kernel
theorem dX7_copyFrom_26 : decode cX7_copyFrom 26 = .ok (.getfield 59, 3) := by decide +kernel
theorem dX7_copyFrom_29 : decode cX7_copyFrom 29 = .ok (.putfield 59, 3) := by decide +kernel
theorem dX7_copyFrom_32 : decode cX7_copyFrom 32 = .ok (.aload_n 0, 1) := by decide +kernel
theorem dX7_copyFrom_33 : decode cX7_copyFrom 33 = .ok (.aload_n 1, 1) := by decide +kernel
theorem dX7_copyFrom_34 : decode cX7_copyFrom 34 = .ok (.getfield 62, 3) := by decide +kernel
theorem dX7_copyFrom_37 : decode cX7_copyFrom 37 = .ok (.putfield 62, 3) := by decide +kernel
theorem dX7_copyFrom_40 : decode cX7_copyFrom 40 = .ok (.aload_n 0, 1) := by decide +kernel
theorem dX7_copyFrom_41 : decode cX7_copyFrom 41 = .ok (.aload_n 1, 1) := by decide +kernel
theorem dX7_copyFrom_42 : decode cX7_copyFrom 42 = .ok (.getfield 65, 3) := by decide +kernel
theorem dX7_copyFrom_45 : decode cX7_copyFrom 45 = .ok (.putfield 65, 3) := by decide +kernel
theorem dX7_copyFrom_48 : decode cX7_copyFrom 48 = .ok (.aload_n 0, 1) := by decide +kernel
theorem dX7_copyFrom_49 : decode cX7_copyFrom 49 = .ok (.aload_n 1, 1) := by decide +kernel
theorem dX7_copyFrom_50 : decode cX7_copyFrom 50 = .ok (.getfield 68, 3) := by decide +kernel
theorem dX7_copyFrom_53 : decode cX7_copyFrom 53 = .ok (.putfield 68, 3) := by decide +kernel
theorem dX7_copyFrom_56 : decode cX7_copyFrom 56 = .ok (.aload_n 1, 1) := by decide +kernel
theorem dX7_copyFrom_57 : decode cX7_copyFrom 57 = .ok (.getfield 9, 3) := by decide +kernel
theorem dX7_copyFrom_60 : decode cX7_copyFrom 60 = .ok (.iconst 0, 1) := by decide +kernel
theorem dX7_copyFrom_61 : decode cX7_copyFrom 61 = .ok (.aload_n 0, 1) := by decide +kernel
theorem dX7_copyFrom_62 : decode cX7_copyFrom 62 = .ok (.getfield 9, 3) := by decide +kernel
theorem dX7_copyFrom_65 : decode cX7_copyFrom 65 = .ok (.iconst 0, 1) := by decide +kernel
theorem dX7_copyFrom_66 : decode cX7_copyFrom 66 = .ok (.iconst 4, 1) := by decide +kernel
theorem dX7_copyFrom_67 : decode cX7_copyFrom 67 = .ok (.invokestatic 71, 3) := by decide +kernel
theorem dX7_copyFrom_70 : decode cX7_copyFrom 70 = .ok (.aload_n 1, 1) := by decide +kernel
theorem dX7_copyFrom_71 : decode cX7_copyFrom 71 = .ok (.getfield 15, 3) := by decide +kernel
theorem dX7_copyFrom_74 : decode cX7_copyFrom 74 = .ok (.iconst 0, 1) := by decide +kernel
theorem dX7_copyFrom_75 : decode cX7_copyFrom 75 = .ok (.aload_n 0, 1) := by decide +kernel
theorem dX7_copyFrom_76 : decode cX7_copyFrom 76 = .ok (.getfield 15, 3) := by decide +kernel
theorem dX7_copyFrom_79 : decode cX7_copyFrom 79 = .ok (.iconst 0, 1) := by decide +kernel
theorem dX7_copyFrom_80 : decode cX7_copyFrom 80 = .ok (.iconst 4, 1) := by decide +kernel
theorem dX7_copyFrom_81 : decode cX7_copyFrom 81 = .ok (.invokestatic 71, 3) := by decide +kernel
theorem dX7_copyFrom_84 : decode cX7_copyFrom 84 = .ok (.aload_n 1, 1) := by decide +kernel
theorem dX7_copyFrom_85 : decode cX7_copyFrom 85 = .ok (.getfield 18, 3) := by decide +kernel
theorem dX7_copyFrom_88 : decode cX7_copyFrom 88 = .ok (.iconst 0, 1) := by decide +kernel
theorem dX7_copyFrom_89 : decode cX7_copyFrom 89 = .ok (.aload_n 0, 1) := by decide +kernel
theorem dX7_copyFrom_90 : decode cX7_copyFrom 90 = .ok (.getfield 18, 3) := by decide +kernel
theorem dX7_copyFrom_93 : decode cX7_copyFrom 93 = .ok (.iconst 0, 1) := by decide +kernel
theorem dX7_copyFrom_94 : decode cX7_copyFrom 94 = .ok (.iconst 4, 1) := by decide +kernel
theorem dX7_copyFrom_95 : decode cX7_copyFrom 95 = .ok (.invokestatic 71, 3) := by decide +kernel
theorem dX7_copyFrom_98 : decode cX7_copyFrom 98 = .ok (.aload_n 1, 1) := by decide +kernel
theorem dX7_copyFrom_99 : decode cX7_copyFrom 99 = .ok (.getfield 21, 3) := by decide +kernel
theorem dX7_copyFrom_102 : decode cX7_copyFrom 102 = .ok (.iconst 0, 1) := by decide +kernel
theorem dX7_copyFrom_103 : decode cX7_copyFrom 103 = .ok (.aload_n 0, 1) := by decide +kernel
theorem dX7_copyFrom_104 : decode cX7_copyFrom 104 = .ok (.getfield 21, 3) := by decide +kernel
theorem dX7_copyFrom_107 : decode cX7_copyFrom 107 = .ok (.iconst 0, 1) := by decide +kernel
theorem dX7_copyFrom_108 : decode cX7_copyFrom 108 = .ok (.iconst 4, 1) := by decide +kernel
theorem dX7_copyFrom_109 : decode cX7_copyFrom 109 = .ok (.invokestatic 71, 3) := by decide +kernel
theorem dX7_copyFrom_112 : decode cX7_copyFrom 112 = .ok (.aload_n 1, 1) := by decide +kernel
theorem dX7_copyFrom_113 : decode cX7_copyFrom 113 = .ok (.getfield 24, 3) := by decide +kernel
theorem dX7_copyFrom_116 : decode cX7_copyFrom 116 = .ok (.iconst 0, 1) := by decide +kernel
theorem dX7_copyFrom_117 : decode cX7_copyFrom 117 = .ok (.aload_n 0, 1) := by decide +kernel
theorem dX7_copyFrom_118 : decode cX7_copyFrom 118 = .ok (.getfield 24, 3) := by decide +kernel
theorem dX7_copyFrom_121 : decode cX7_copyFrom 121 = .ok (.iconst 0, 1) := by decide +kernel
theorem dX7_copyFrom_122 : decode cX7_copyFrom 122 = .ok (.iconst 3, 1) := by decide +kernel
theorem dX7_copyFrom_123 : decode cX7_copyFrom 123 = .ok (.invokestatic 71, 3) := by decide +kernel
theorem dX7_copyFrom_126 : decode cX7_copyFrom 126 = .ok (.aload_n 1, 1) := by decide +kernel
theorem dX7_copyFrom_127 : decode cX7_copyFrom 127 = .ok (.getfield 27, 3) := by decide +kernel
theorem dX7_copyFrom_130 : decode cX7_copyFrom 130 = .ok (.iconst 0, 1) := by decide +kernel
theorem dX7_copyFrom_131 : decode cX7_copyFrom 131 = .ok (.aload_n 0, 1) := by decide +kernel
theorem dX7_copyFrom_132 : decode cX7_copyFrom 132 = .ok (.getfield 27, 3) := by decide +kernel
theorem dX7_copyFrom_135 : decode cX7_copyFrom 135 = .ok (.iconst 0, 1) := by decide +kernel
theorem dX7_copyFrom_136 : decode cX7_copyFrom 136 = .ok (.iconst 3, 1) := by decide +kernel
theorem dX7_copyFrom_137 : decode cX7_copyFrom 137 = .ok (.invokestatic 71, 3) := by decide +kernel
theorem dX7_copyFrom_140 : decode cX7_copyFrom 140 = .ok (.aload_n 1, 1) := by decide +kernel
theorem dX7_copyFrom_141 : decode cX7_copyFrom 141 = .ok (.getfield 30, 3) := by decide +kernel
theorem dX7_copyFrom_144 : decode cX7_copyFrom 144 = .ok (.iconst 0, 1) := by decide +kernel
theorem dX7_copyFrom_145 : decode cX7_copyFrom 145 = .ok (.aload_n 0, 1) := by decide +kernel
theorem dX7_copyFrom_146 : decode cX7_copyFrom 146 = .ok (.getfield 30, 3) := by decide +kernel
theorem dX7_copyFrom_149 : decode cX7_copyFrom 149 = .ok (.iconst 0, 1) := by decide +kernel
theorem dX7_copyFrom_150 : decode cX7_copyFrom 150 = .ok (.iconst 3, 1) := by decide +kernel
theorem dX7_copyFrom_151 : decode cX7_copyFrom 151 = .ok (.invokestatic 71, 3) := by decide +kernel
theorem dX7_copyFrom_154 : decode cX7_copyFrom 154 = .ok (.aload_n 1, 1) := by decide +kernel
theorem dX7_copyFrom_155 : decode cX7_copyFrom 155 = .ok (.getfield 33, 3) := by decide +kernel
theorem dX7_copyFrom_158 : decode cX7_copyFrom 158 = .ok (.iconst 0, 1) := by decide +kernel
theorem dX7_copyFrom_159 : decode cX7_copyFrom 159 = .ok (.aload_n 0, 1) := by decide +kernel
theorem dX7_copyFrom_160 : decode cX7_copyFrom 160 = .ok (.getfield 33, 3) := by decide +kernel
theorem dX7_copyFrom_163 : decode cX7_copyFrom 163 = .ok (.iconst 0, 1) := by decide +kernel
theorem dX7_copyFrom_164 : decode cX7_copyFrom 164 = .ok (.bipush 6, 2) := by decide +kernel
theorem dX7_copyFrom_166 : decode cX7_copyFrom 166 = .ok (.invokestatic 71, 3) := by decide +kernel
theorem dX7_copyFrom_169 : decode cX7_copyFrom 169 = .ok (.aload_n 1, 1) := by decide +kernel
theorem dX7_copyFrom_170 : decode cX7_copyFrom 170 = .ok (.getfield 36, 3) := by decide +kernel
theorem dX7_copyFrom_173 : decode cX7_copyFrom 173 = .ok (.iconst 0, 1) := by decide +kernel
theorem dX7_copyFrom_174 : decode cX7_copyFrom 174 = .ok (.aload_n 0, 1) := by decide +kernel
theorem dX7_copyFrom_175 : decode cX7_copyFrom 175 = .ok (.getfield 36, 3) := by decide +kernel
theorem dX7_copyFrom_178 : decode cX7_copyFrom 178 = .ok (.iconst 0, 1) := by decide +kernel
theorem dX7_copyFrom_179 : decode cX7_copyFrom 179 = .ok (.bipush 7, 2) := by decide +kernel
theorem dX7_copyFrom_181 : decode cX7_copyFrom 181 = .ok (.invokestatic 71, 3) := by decide +kernel
theorem dX7_copyFrom_184 : decode cX7_copyFrom 184 = .ok (.aload_n 1, 1) := by decide +kernel
theorem dX7_copyFrom_185 : decode cX7_copyFrom 185 = .ok (.getfield 40, 3) := by decide +kernel
theorem dX7_copyFrom_188 : decode cX7_copyFrom 188 = .ok (.iconst 0, 1) := by decide +kernel
theorem dX7_copyFrom_189 : decode cX7_copyFrom 189 = .ok (.aload_n 0, 1) := by decide +kernel
theorem dX7_copyFrom_190 : decode cX7_copyFrom 190 = .ok (.getfield 40, 3) := by decide +kernel
theorem dX7_copyFrom_193 : decode cX7_copyFrom 193 = .ok (.iconst 0, 1) := by decide +kernel
theorem dX7_copyFrom_194 : decode cX7_copyFrom 194 = .ok (.bipush 7, 2) := by decide +kernel
theorem dX7_copyFrom_196 : decode cX7_copyFrom 196 = .ok (.invokestatic 71, 3) := by decide +kernel
theorem dX7_copyFrom_199 : decode cX7_copyFrom 199 = .ok (.aload_n 1, 1) := by decide +kernel
theorem dX7_copyFrom_200 : decode cX7_copyFrom 200 = .ok (.getfield 43, 3) := by decide +kernel
theorem dX7_copyFrom_203 : decode cX7_copyFrom 203 = .ok (.iconst 0, 1) := by decide +kernel
theorem dX7_copyFrom_204 : decode cX7_copyFrom 204 = .ok (.aload_n 0, 1) := by decide +kernel
theorem dX7_copyFrom_205 : decode cX7_copyFrom 205 = .ok (.getfield 43, 3) := by decide +kernel
theorem dX7_copyFrom_208 : decode cX7_copyFrom 208 = .ok (.iconst 0, 1) := by decide +kernel
theorem dX7_copyFrom_209 : decode cX7_copyFrom 209 = .ok (.bipush 7, 2) := by decide +kernel
theorem dX7_copyFrom_211 : decode cX7_copyFrom 211 = .ok (.invokestatic 71, 3) := by decide +kernel
theorem dX7_copyFrom_214 : decode cX7_copyFrom 214 = .ok (.aload_n 1, 1) := by decide +kernel
theorem dX7_copyFrom_215 : decode cX7_copyFrom 215 = .ok (.getfield 46, 3) := by decide +kernel
theorem dX7_copyFrom_218 : decode cX7_copyFrom 218 = .ok (.iconst 0, 1) := by decide +kernel
theorem dX7_copyFrom_219 : decode cX7_copyFrom 219 = .ok (.aload_n 0, 1) := by decide +kernel
theorem dX7_copyFrom_220 : decode cX7_copyFrom 220 = .ok (.getfield 46, 3) := by decide +kernel
theorem dX7_copyFrom_223 : decode cX7_copyFrom 223 = .ok (.iconst 0, 1) := by decide +kernel
theorem dX7_copyFrom_224 : decode cX7_copyFrom 224 = .ok (.bipush 7, 2) := by decide +kernel
theorem dX7_copyFrom_226 : decode cX7_copyFrom 226 = .ok (.invokestatic 71, 3) := by decide +kernel
theorem dX7_copyFrom_229 : decode cX7_copyFrom 229 = .ok (.return_, 1) := by decide +kernel
theorem dX7_isStopped_0 : decode cX7_isStopped 0 = .ok (.aload_n 0, 1) := by decide +kernel
theorem dX7_isStopped_1 : decode cX7_isStopped 1 = .ok (.getfield 65, 3) := by decide +kernel
theorem dX7_isStopped_4 : decode cX7_isStopped 4 = .ok (.iload_n 1, 1) := by decide +kernel
theorem dX7_isStopped_5 : decode cX7_isStopped 5 = .ok (.invokestatic 77, 3) := by decide +kernel
theorem dX7_isStopped_8 : decode cX7_isStopped 8 = .ok (.iconst 1, 1) := by decide +kernel
theorem dX7_isStopped_9 : decode cX7_isStopped 9 = .ok (.if_icmp .ne 7, 3) := by decide +kernel
theorem dX7_isStopped_12 : decode cX7_isStopped 12 = .ok (.iconst 1, 1) := by decide +kernel
theorem dX7_isStopped_13 : decode cX7_isStopped 13 = .ok (.goto 4, 3) := by decide +kernel
theorem dX7_isStopped_16 : decode cX7_isStopped 16 = .ok (.iconst 0, 1) := by decide +kernel
theorem dX7_isStopped_17 : decode cX7_isStopped 17 = .ok (.ireturn, 1) := by decide +kernel
theorem dX7_isAsleep_0 : decode cX7_isAsleep 0 = .ok (.aload_n 0, 1) := by decide +kernel
theorem dX7_isAsleep_1 : decode cX7_isAsleep 1 = .ok (.getfield 68, 3) := by decide +kernel
theorem dX7_isAsleep_4 : decode cX7_isAsleep 4 = .ok (.iload_n 1, 1) := by decide +kernel
theorem dX7_isAsleep_5 : decode cX7_isAsleep 5 = .ok (.invokestatic 77, 3) := by decide +kernel
theorem dX7_isAsleep_8 : decode cX7_isAsleep 8 = .ok (.iconst 1, 1) := by decide +kernel
theorem dX7_isAsleep_9 : decode cX7_isAsleep 9 = .ok (.if_icmp .ne 7, 3) := by decide +kernel
theorem dX7_isAsleep_12 : decode cX7_isAsleep 12 = .ok (.iconst 1, 1) := by decide +kernel
theorem dX7_isAsleep_13 : decode cX7_isAsleep 13 = .ok (.goto 4, 3) := by decide +kernel
theorem dX7_isAsleep_16 : decode cX7_isAsleep 16 = .ok (.iconst 0, 1) := by decide +kernel
theorem dX7_isAsleep_17 : decode cX7_isAsleep 17 = .ok (.ireturn, 1) := by decide +kernel
theorem dX7_hasAsk_0 : decode cX7_hasAsk 0 = .ok (.iload_n 1, 1) := by decide +kernel
theorem dX7_hasAsk_1 : decode cX7_hasAsk 1 = .ok (.ifCond .lt 15, 3) := by decide +kernel
theorem dX7_hasAsk_4 : decode cX7_hasAsk 4 = .ok (.iload_n 1, 1) := by decide +kernel
theorem dX7_hasAsk_5 : decode cX7_hasAsk 5 = .ok (.aload_n 0, 1) := by decide +kernel
theorem dX7_hasAsk_6 : decode cX7_hasAsk 6 = .ok (.getfield 62, 3) := by decide +kernel
theorem dX7_hasAsk_9 : decode cX7_hasAsk 9 = .ok (.if_icmp .ge 7, 3) := by decide +kernel
theorem dX7_hasAsk_12 : decode cX7_hasAsk 12 = .ok (.iconst 1, 1) := by decide +kernel
theorem dX7_hasAsk_13 : decode cX7_hasAsk 13 = .ok (.goto 4, 3) := by decide +kernel
theorem dX7_hasAsk_16 : decode cX7_hasAsk 16 = .ok (.iconst 0, 1) := by decide +kernel
theorem dX7_hasAsk_17 : decode cX7_hasAsk 17 = .ok (.ireturn, 1) := by decide +kernel
theorem dX7_askOf_0 : decode cX7_askOf 0 = .ok (.iconst 0, 1) := by decide +kernel
theorem dX7_askOf_1 : decode cX7_askOf 1 = .ok (.istore 4, 2) := by decide +kernel
theorem dX7_askOf_3 : decode cX7_askOf 3 = .ok (.iload 4, 2) := by decide +kernel
theorem dX7_askOf_5 : decode cX7_askOf 5 = .ok (.aload_n 0, 1) := by decide +kernel
theorem dX7_askOf_6 : decode cX7_askOf 6 = .ok (.getfield 62, 3) := by decide +kernel
theorem dX7_askOf_9 : decode cX7_askOf 9 = .ok (.if_icmp .ge 35, 3) := by decide +kernel
theorem dX7_askOf_12 : decode cX7_askOf 12 = .ok (.aload_n 0, 1) := by decide +kernel
theorem dX7_askOf_13 : decode cX7_askOf 13 = .ok (.getfield 36, 3) := by decide +kernel
theorem dX7_askOf_16 : decode cX7_askOf 16 = .ok (.iload 4, 2) := by decide +kernel
theorem dX7_askOf_18 : decode cX7_askOf 18 = .ok (.laload, 1) := by decide +kernel
theorem dX7_askOf_19 : decode cX7_askOf 19 = .ok (.lload_n 1, 1) := by decide +kernel
theorem dX7_askOf_20 : decode cX7_askOf 20 = .ok (.lcmp, 1) := by decide +kernel
theorem dX7_askOf_21 : decode cX7_askOf 21 = .ok (.ifCond .ne 17, 3) := by decide +kernel
theorem dX7_askOf_24 : decode cX7_askOf 24 = .ok (.aload_n 0, 1) := by decide +kernel
theorem dX7_askOf_25 : decode cX7_askOf 25 = .ok (.getfield 40, 3) := by decide +kernel
theorem dX7_askOf_28 : decode cX7_askOf 28 = .ok (.iload 4, 2) := by decide +kernel
theorem dX7_askOf_30 : decode cX7_askOf 30 = .ok (.iaload, 1) := by decide +kernel
theorem dX7_askOf_31 : decode cX7_askOf 31 = .ok (.iload_n 3, 1) := by decide +kernel
theorem dX7_askOf_32 : decode cX7_askOf 32 = .ok (.if_icmp .ne 6, 3) := by decide +kernel
theorem dX7_askOf_35 : decode cX7_askOf 35 = .ok (.iload 4, 2) := by decide +kernel
theorem dX7_askOf_37 : decode cX7_askOf 37 = .ok (.ireturn, 1) := by decide +kernel
theorem dX7_askOf_38 : decode cX7_askOf 38 = .ok (.iinc 4 1, 3) := by decide +kernel
theorem dX7_askOf_41 : decode cX7_askOf 41 = .ok (.goto (-38), 3) := by decide +kernel
theorem dX7_askOf_44 : decode cX7_askOf 44 = .ok (.iconst (-1), 1) := by decide +kernel
theorem dX7_askOf_45 : decode cX7_askOf 45 = .ok (.ireturn, 1) := by decide +kernel
theorem dX7_tell_0 : decode cX7_tell 0 = .ok (.aload_n 0, 1) := by decide +kernel
theorem dX7_tell_1 : decode cX7_tell 1 = .ok (.lload_n 1, 1) := by decide +kernel
theorem dX7_tell_2 : decode cX7_tell 2 = .ok (.iload_n 3, 1) := by decide +kernel
theorem dX7_tell_3 : decode cX7_tell 3 = .ok (.invokevirtual 81, 3) := by decide +kernel
theorem dX7_tell_6 : decode cX7_tell 6 = .ok (.istore 6, 2) := by decide +kernel
theorem dX7_tell_8 : decode cX7_tell 8 = .ok (.iload 6, 2) := by decide +kernel
theorem dX7_tell_10 : decode cX7_tell 10 = .ok (.iconst (-1), 1) := by decide +kernel
theorem dX7_tell_11 : decode cX7_tell 11 = .ok (.if_icmp .ne 33, 3) := by decide +kernel
theorem dX7_tell_14 : decode cX7_tell 14 = .ok (.aload_n 0, 1) := by decide +kernel
theorem dX7_tell_15 : decode cX7_tell 15 = .ok (.getfield 62, 3) := by decide +kernel
theorem dX7_tell_18 : decode cX7_tell 18 = .ok (.aload_n 0, 1) := by decide +kernel
theorem dX7_tell_19 : decode cX7_tell 19 = .ok (.getfield 36, 3) := by decide +kernel
theorem dX7_tell_22 : decode cX7_tell 22 = .ok (.arraylength, 1) := by decide +kernel
theorem dX7_tell_23 : decode cX7_tell 23 = .ok (.if_icmp .lt 5, 3) := by decide +kernel
theorem dX7_tell_26 : decode cX7_tell 26 = .ok (.iconst (-1), 1) := by decide +kernel
theorem dX7_tell_27 : decode cX7_tell 27 = .ok (.ireturn, 1) := by decide +kernel
theorem dX7_tell_28 : decode cX7_tell 28 = .ok (.aload_n 0, 1) := by decide +kernel
theorem dX7_tell_29 : decode cX7_tell 29 = .ok (.getfield 62, 3) := by decide +kernel
theorem dX7_tell_32 : decode cX7_tell 32 = .ok (.istore 6, 2) := by decide +kernel
theorem dX7_tell_34 : decode cX7_tell 34 = .ok (.aload_n 0, 1) := by decide +kernel
theorem dX7_tell_35 : decode cX7_tell 35 = .ok (.dup, 1) := by decide +kernel
theorem dX7_tell_36 : decode cX7_tell 36 = .ok (.getfield 62, 3) := by decide +kernel
theorem dX7_tell_39 : decode cX7_tell 39 = .ok (.iconst 1, 1) := by decide +kernel
theorem dX7_tell_40 : decode cX7_tell 40 = .ok (.iadd, 1) := by decide +kernel
theorem dX7_tell_41 : decode cX7_tell 41 = .ok (.putfield 62, 3) := by decide +kernel
theorem dX7_tell_44 : decode cX7_tell 44 = .ok (.aload_n 0, 1) := by decide +kernel
theorem dX7_tell_45 : decode cX7_tell 45 = .ok (.getfield 36, 3) := by decide +kernel
theorem dX7_tell_48 : decode cX7_tell 48 = .ok (.iload 6, 2) := by decide +kernel
theorem dX7_tell_50 : decode cX7_tell 50 = .ok (.lload_n 1, 1) := by decide +kernel
theorem dX7_tell_51 : decode cX7_tell 51 = .ok (.lastore, 1) := by decide +kernel
theorem dX7_tell_52 : decode cX7_tell 52 = .ok (.aload_n 0, 1) := by decide +kernel
theorem dX7_tell_53 : decode cX7_tell 53 = .ok (.getfield 40, 3) := by decide +kernel
theorem dX7_tell_56 : decode cX7_tell 56 = .ok (.iload 6, 2) := by decide +kernel
theorem dX7_tell_58 : decode cX7_tell 58 = .ok (.iload_n 3, 1) := by decide +kernel
theorem dX7_tell_59 : decode cX7_tell 59 = .ok (.iastore, 1) := by decide +kernel
theorem dX7_tell_60 : decode cX7_tell 60 = .ok (.aload_n 0, 1) := by decide +kernel
theorem dX7_tell_61 : decode cX7_tell 61 = .ok (.getfield 43, 3) := by decide +kernel
theorem dX7_tell_64 : decode cX7_tell 64 = .ok (.iload 6, 2) := by decide +kernel
theorem dX7_tell_66 : decode cX7_tell 66 = .ok (.iload 4, 2) := by decide +kernel
theorem dX7_tell_68 : decode cX7_tell 68 = .ok (.iastore, 1) := by decide +kernel
theorem dX7_tell_69 : decode cX7_tell 69 = .ok (.aload_n 0, 1) := by decide +kernel
theorem dX7_tell_70 : decode cX7_tell 70 = .ok (.getfield 46, 3) := by decide +kernel
theorem dX7_tell_73 : decode cX7_tell 73 = .ok (.iload 6, 2) := by decide +kernel
theorem dX7_tell_75 : decode cX7_tell 75 = .ok (.iload 5, 2) := by decide +kernel
theorem dX7_tell_77 : decode cX7_tell 77 = .ok (.iastore, 1) := by decide +kernel
theorem dX7_tell_78 : decode cX7_tell 78 = .ok (.iload 6, 2) := by decide +kernel
theorem dX7_tell_80 : decode cX7_tell 80 = .ok (.ireturn, 1) := by decide +kernel
theorem dX7_forgetAsk_0 : decode cX7_forgetAsk 0 = .ok (.aload_n 0, 1) := by decide +kernel
theorem dX7_forgetAsk_1 : decode cX7_forgetAsk 1 = .ok (.iload_n 1, 1) := by decide +kernel
theorem dX7_forgetAsk_2 : decode cX7_forgetAsk 2 = .ok (.invokevirtual 85, 3) := by decide +kernel
theorem dX7_forgetAsk_5 : decode cX7_forgetAsk 5 = .ok (.ifCond .ne 4, 3) := by decide +kernel
theorem dX7_forgetAsk_8 : decode cX7_forgetAsk 8 = .ok (.return_, 1) := by decide +kernel
theorem dX7_forgetAsk_9 : decode cX7_forgetAsk 9 = .ok (.aload_n 0, 1) := by decide +kernel
theorem dX7_forgetAsk_10 : decode cX7_forgetAsk 10 = .ok (.dup, 1) := by decide +kernel
theorem dX7_forgetAsk_11 : decode cX7_forgetAsk 11 = .ok (.getfield 62, 3) := by decide +kernel
theorem dX7_forgetAsk_14 : decode cX7_forgetAsk 14 = .ok (.iconst 1, 1) := by decide +kernel
theorem dX7_forgetAsk_15 : decode cX7_forgetAsk 15 = .ok (.isub, 1) := by decide +kernel
theorem dX7_forgetAsk_16 : decode cX7_forgetAsk 16 = .ok (.putfield 62, 3) := by decide +kernel
theorem dX7_forgetAsk_19 : decode cX7_forgetAsk 19 = .ok (.iload_n 1, 1) := by decide +kernel
theorem dX7_forgetAsk_20 : decode cX7_forgetAsk 20 = .ok (.istore_n 2, 1) := by decide +kernel
theorem dX7_forgetAsk_21 : decode cX7_forgetAsk 21 = .ok (.iload_n 2, 1) := by decide +kernel
theorem dX7_forgetAsk_22 : decode cX7_forgetAsk 22 = .ok (.aload_n 0, 1) := by decide +kernel
theorem dX7_forgetAsk_23 : decode cX7_forgetAsk 23 = .ok (.getfield 62, 3) := by decide +kernel
theorem dX7_forgetAsk_26 : decode cX7_forgetAsk 26 = .ok (.if_icmp .ge 65, 3) := by decide +kernel
theorem dX7_forgetAsk_29 : decode cX7_forgetAsk 29 = .ok (.aload_n 0, 1) := by decide +kernel
theorem dX7_forgetAsk_30 : decode cX7_forgetAsk 30 = .ok (.getfield 36, 3) := by decide +kernel
theorem dX7_forgetAsk_33 : decode cX7_forgetAsk 33 = .ok (.iload_n 2, 1) := by decide +kernel
theorem dX7_forgetAsk_34 : decode cX7_forgetAsk 34 = .ok (.aload_n 0, 1) := by decide +kernel
theorem dX7_forgetAsk_35 : decode cX7_forgetAsk 35 = .ok (.getfield 36, 3) := by decide +kernel
theorem dX7_forgetAsk_38 : decode cX7_forgetAsk 38 = .ok (.iload_n 2, 1) := by decide +kernel
theorem dX7_forgetAsk_39 : decode cX7_forgetAsk 39 = .ok (.iconst 1, 1) := by decide +kernel
theorem dX7_forgetAsk_40 : decode cX7_forgetAsk 40 = .ok (.iadd, 1) := by decide +kernel
theorem dX7_forgetAsk_41 : decode cX7_forgetAsk 41 = .ok (.laload, 1) := by decide +kernel
theorem dX7_forgetAsk_42 : decode cX7_forgetAsk 42 = .ok (.lastore, 1) := by decide +kernel
theorem dX7_forgetAsk_43 : decode cX7_forgetAsk 43 = .ok (.aload_n 0, 1) := by decide +kernel
theorem dX7_forgetAsk_44 : decode cX7_forgetAsk 44 = .ok (.getfield 40, 3) := by decide +kernel
theorem dX7_forgetAsk_47 : decode cX7_forgetAsk 47 = .ok (.iload_n 2, 1) := by decide +kernel
theorem dX7_forgetAsk_48 : decode cX7_forgetAsk 48 = .ok (.aload_n 0, 1) := by decide +kernel
theorem dX7_forgetAsk_49 : decode cX7_forgetAsk 49 = .ok (.getfield 40, 3) := by decide +kernel
theorem dX7_forgetAsk_52 : decode cX7_forgetAsk 52 = .ok (.iload_n 2, 1) := by decide +kernel
theorem dX7_forgetAsk_53 : decode cX7_forgetAsk 53 = .ok (.iconst 1, 1) := by decide +kernel
theorem dX7_forgetAsk_54 : decode cX7_forgetAsk 54 = .ok (.iadd, 1) := by decide +kernel
theorem dX7_forgetAsk_55 : decode cX7_forgetAsk 55 = .ok (.iaload, 1) := by decide +kernel
theorem dX7_forgetAsk_56 : decode cX7_forgetAsk 56 = .ok (.iastore, 1) := by decide +kernel
theorem dX7_forgetAsk_57 : decode cX7_forgetAsk 57 = .ok (.aload_n 0, 1) := by decide +kernel
theorem dX7_forgetAsk_58 : decode cX7_forgetAsk 58 = .ok (.getfield 43, 3) := by decide +kernel
theorem dX7_forgetAsk_61 : decode cX7_forgetAsk 61 = .ok (.iload_n 2, 1) := by decide +kernel
theorem dX7_forgetAsk_62 : decode cX7_forgetAsk 62 = .ok (.aload_n 0, 1) := by decide +kernel
theorem dX7_forgetAsk_63 : decode cX7_forgetAsk 63 = .ok (.getfield 43, 3) := by decide +kernel
theorem dX7_forgetAsk_66 : decode cX7_forgetAsk 66 = .ok (.iload_n 2, 1) := by decide +kernel
theorem dX7_forgetAsk_67 : decode cX7_forgetAsk 67 = .ok (.iconst 1, 1) := by decide +kernel
theorem dX7_forgetAsk_68 : decode cX7_forgetAsk 68 = .ok (.iadd, 1) := by decide +kernel
theorem dX7_forgetAsk_69 : decode cX7_forgetAsk 69 = .ok (.iaload, 1) := by decide +kernel
theorem dX7_forgetAsk_70 : decode cX7_forgetAsk 70 = .ok (.iastore, 1) := by decide +kernel
theorem dX7_forgetAsk_71 : decode cX7_forgetAsk 71 = .ok (.aload_n 0, 1) := by decide +kernel
theorem dX7_forgetAsk_72 : decode cX7_forgetAsk 72 = .ok (.getfield 46, 3) := by decide +kernel
theorem dX7_forgetAsk_75 : decode cX7_forgetAsk 75 = .ok (.iload_n 2, 1) := by decide +kernel
theorem dX7_forgetAsk_76 : decode cX7_forgetAsk 76 = .ok (.aload_n 0, 1) := by decide +kernel
theorem dX7_forgetAsk_77 : decode cX7_forgetAsk 77 = .ok (.getfield 46, 3) := by decide +kernel
theorem dX7_forgetAsk_80 : decode cX7_forgetAsk 80 = .ok (.iload_n 2, 1) := by decide +kernel
theorem dX7_forgetAsk_81 : decode cX7_forgetAsk 81 = .ok (.iconst 1, 1) := by decide +kernel
theorem dX7_forgetAsk_82 : decode cX7_forgetAsk 82 = .ok (.iadd, 1) := by decide +kernel
theorem dX7_forgetAsk_83 : decode cX7_forgetAsk 83 = .ok (.iaload, 1) := by decide +kernel
theorem dX7_forgetAsk_84 : decode cX7_forgetAsk 84 = .ok (.iastore, 1) := by decide +kernel
theorem dX7_forgetAsk_85 : decode cX7_forgetAsk 85 = .ok (.iinc 2 1, 3) := by decide +kernel
theorem dX7_forgetAsk_88 : decode cX7_forgetAsk 88 = .ok (.goto (-67), 3) := by decide +kernel
theorem dX7_forgetAsk_91 : decode cX7_forgetAsk 91 = .ok (.return_, 1) := by decide +kernel
theorem dX7_lowOf_0 : decode cX7_lowOf 0 = .ok (.iconst 0, 1) := by decide +kernel
theorem dX7_lowOf_1 : decode cX7_lowOf 1 = .ok (.istore_n 2, 1) := by decide +kernel
theorem dX7_lowOf_2 : decode cX7_lowOf 2 = .ok (.iconst 0, 1) := by decide +kernel
theorem dX7_lowOf_3 : decode cX7_lowOf 3 = .ok (.istore_n 3, 1) := by decide +kernel
theorem dX7_lowOf_4 : decode cX7_lowOf 4 = .ok (.iload_n 3, 1) := by decide +kernel
theorem dX7_lowOf_5 : decode cX7_lowOf 5 = .ok (.aload_n 0, 1) := by decide +kernel
theorem dX7_lowOf_6 : decode cX7_lowOf 6 = .ok (.getfield 62, 3) := by decide +kernel
theorem dX7_lowOf_9 : decode cX7_lowOf 9 = .ok (.if_icmp .ge 30, 3) := by decide +kernel
theorem dX7_lowOf_12 : decode cX7_lowOf 12 = .ok (.aload_n 0, 1) := by decide +kernel
theorem dX7_lowOf_13 : decode cX7_lowOf 13 = .ok (.getfield 40, 3) := by decide +kernel
theorem dX7_lowOf_16 : decode cX7_lowOf 16 = .ok (.iload_n 3, 1) := by decide +kernel
theorem dX7_lowOf_17 : decode cX7_lowOf 17 = .ok (.iaload, 1) := by decide +kernel
theorem dX7_lowOf_18 : decode cX7_lowOf 18 = .ok (.iload_n 1, 1) := by decide +kernel
theorem dX7_lowOf_19 : decode cX7_lowOf 19 = .ok (.if_icmp .ne 14, 3) := by decide +kernel
theorem dX7_lowOf_22 : decode cX7_lowOf 22 = .ok (.iload_n 2, 1) := by decide +kernel
theorem dX7_lowOf_23 : decode cX7_lowOf 23 = .ok (.aload_n 0, 1) := by decide +kernel
theorem dX7_lowOf_24 : decode cX7_lowOf 24 = .ok (.getfield 43, 3) := by decide +kernel
theorem dX7_lowOf_27 : decode cX7_lowOf 27 = .ok (.iload_n 3, 1) := by decide +kernel
theorem dX7_lowOf_28 : decode cX7_lowOf 28 = .ok (.iaload, 1) := by decide +kernel
theorem dX7_lowOf_29 : decode cX7_lowOf 29 = .ok (.invokestatic 89, 3) := by decide +kernel
theorem dX7_lowOf_32 : decode cX7_lowOf 32 = .ok (.istore_n 2, 1) := by decide +kernel
theorem dX7_lowOf_33 : decode cX7_lowOf 33 = .ok (.iinc 3 1, 3) := by decide +kernel
theorem dX7_lowOf_36 : decode cX7_lowOf 36 = .ok (.goto (-32), 3) := by decide +kernel
theorem dX7_lowOf_39 : decode cX7_lowOf 39 = .ok (.iload_n 2, 1) := by decide +kernel
theorem dX7_lowOf_40 : decode cX7_lowOf 40 = .ok (.ireturn, 1) := by decide +kernel
theorem dX7_highOf_0 : decode cX7_highOf 0 = .ok (.aload_n 1, 1) := by decide +kernel
theorem dX7_highOf_1 : decode cX7_highOf 1 = .ok (.iload_n 2, 1) := by decide +kernel
theorem dX7_highOf_2 : decode cX7_highOf 2 = .ok (.invokevirtual 94, 3) := by decide +kernel
theorem dX7_highOf_5 : decode cX7_highOf 5 = .ok (.ifCond .eq 14, 3) := by decide +kernel
theorem dX7_highOf_8 : decode cX7_highOf 8 = .ok (.aload_n 1, 1) := by decide +kernel
theorem dX7_highOf_9 : decode cX7_highOf 9 = .ok (.getfield 99, 3) := by decide +kernel
theorem dX7_highOf_12 : decode cX7_highOf 12 = .ok (.iload_n 2, 1) := by decide +kernel
theorem dX7_highOf_13 : decode cX7_highOf 13 = .ok (.iaload, 1) := by decide +kernel
theorem dX7_highOf_14 : decode cX7_highOf 14 = .ok (.iconst 1, 1) := by decide +kernel
theorem dX7_highOf_15 : decode cX7_highOf 15 = .ok (.isub, 1) := by decide +kernel
theorem dX7_highOf_16 : decode cX7_highOf 16 = .ok (.goto 4, 3) := by decide +kernel
theorem dX7_highOf_19 : decode cX7_highOf 19 = .ok (.iconst 0, 1) := by decide +kernel
theorem dX7_highOf_20 : decode cX7_highOf 20 = .ok (.istore_n 3, 1) := by decide +kernel
theorem dX7_highOf_21 : decode cX7_highOf 21 = .ok (.iconst 0, 1) := by decide +kernel
theorem dX7_highOf_22 : decode cX7_highOf 22 = .ok (.istore 4, 2) := by decide +kernel
theorem dX7_highOf_24 : decode cX7_highOf 24 = .ok (.iload 4, 2) := by decide +kernel
theorem dX7_highOf_26 : decode cX7_highOf 26 = .ok (.aload_n 0, 1) := by decide +kernel
theorem dX7_highOf_27 : decode cX7_highOf 27 = .ok (.getfield 62, 3) := by decide +kernel
theorem dX7_highOf_30 : decode cX7_highOf 30 = .ok (.if_icmp .ge 32, 3) := by decide +kernel
theorem dX7_highOf_33 : decode cX7_highOf 33 = .ok (.aload_n 0, 1) := by decide +kernel
theorem dX7_highOf_34 : decode cX7_highOf 34 = .ok (.getfield 40, 3) := by decide +kernel
theorem dX7_highOf_37 : decode cX7_highOf 37 = .ok (.iload 4, 2) := by decide +kernel
theorem dX7_highOf_39 : decode cX7_highOf 39 = .ok (.iaload, 1) := by decide +kernel
theorem dX7_highOf_40 : decode cX7_highOf 40 = .ok (.iload_n 2, 1) := by decide +kernel
theorem dX7_highOf_41 : decode cX7_highOf 41 = .ok (.if_icmp .ne 15, 3) := by decide +kernel
theorem dX7_highOf_44 : decode cX7_highOf 44 = .ok (.iload_n 3, 1) := by decide +kernel
theorem dX7_highOf_45 : decode cX7_highOf 45 = .ok (.aload_n 0, 1) := by decide +kernel
theorem dX7_highOf_46 : decode cX7_highOf 46 = .ok (.getfield 46, 3) := by decide +kernel
theorem dX7_highOf_49 : decode cX7_highOf 49 = .ok (.iload 4, 2) := by decide +kernel
theorem dX7_highOf_51 : decode cX7_highOf 51 = .ok (.iaload, 1) := by decide +kernel
theorem dX7_highOf_52 : decode cX7_highOf 52 = .ok (.invokestatic 102, 3) := by decide +kernel
theorem dX7_highOf_55 : decode cX7_highOf 55 = .ok (.istore_n 3, 1) := by decide +kernel
theorem dX7_highOf_56 : decode cX7_highOf 56 = .ok (.iinc 4 1, 3) := by decide +kernel
theorem dX7_highOf_59 : decode cX7_highOf 59 = .ok (.goto (-35), 3) := by decide +kernel
theorem dX7_highOf_62 : decode cX7_highOf 62 = .ok (.iload_n 3, 1) := by decide +kernel
theorem dX7_highOf_63 : decode cX7_highOf 63 = .ok (.ireturn, 1) := by decide +kernel
theorem dX7_lateOfAll_0 : decode cX7_lateOfAll 0 = .ok (.iconst 0, 1) := by decide +kernel
theorem dX7_lateOfAll_1 : decode cX7_lateOfAll 1 = .ok (.istore_n 2, 1) := by decide +kernel
theorem dX7_lateOfAll_2 : decode cX7_lateOfAll 2 = .ok (.iconst 0, 1) := by decide +kernel
theorem dX7_lateOfAll_3 : decode cX7_lateOfAll 3 = .ok (.istore_n 3, 1) := by decide +kernel
theorem dX7_lateOfAll_4 : decode cX7_lateOfAll 4 = .ok (.iload_n 3, 1) := by decide +kernel
theorem dX7_lateOfAll_5 : decode cX7_lateOfAll 5 = .ok (.aload_n 1, 1) := by decide +kernel
theorem dX7_lateOfAll_6 : decode cX7_lateOfAll 6 = .ok (.getfield 105, 3) := by decide +kernel
theorem dX7_lateOfAll_9 : decode cX7_lateOfAll 9 = .ok (.if_icmp .ge 18, 3) := by decide +kernel
theorem dX7_lateOfAll_12 : decode cX7_lateOfAll 12 = .ok (.iload_n 2, 1) := by decide +kernel
theorem dX7_lateOfAll_13 : decode cX7_lateOfAll 13 = .ok (.aload_n 0, 1) := by decide +kernel
theorem dX7_lateOfAll_14 : decode cX7_lateOfAll 14 = .ok (.getfield 21, 3) := by decide +kernel
theorem dX7_lateOfAll_17 : decode cX7_lateOfAll 17 = .ok (.iload_n 3, 1) := by decide +kernel
theorem dX7_lateOfAll_18 : decode cX7_lateOfAll 18 = .ok (.iaload, 1) := by decide +kernel
theorem dX7_lateOfAll_19 : decode cX7_lateOfAll 19 = .ok (.iadd, 1) := by decide +kernel
theorem dX7_lateOfAll_20 : decode cX7_lateOfAll 20 = .ok (.istore_n 2, 1) := by decide +kernel
theorem dX7_lateOfAll_21 : decode cX7_lateOfAll 21 = .ok (.iinc 3 1, 3) := by decide +kernel
theorem dX7_lateOfAll_24 : decode cX7_lateOfAll 24 = .ok (.goto (-20), 3) := by decide +kernel
theorem dX7_lateOfAll_27 : decode cX7_lateOfAll 27 = .ok (.iload_n 2, 1) := by decide +kernel
theorem dX7_lateOfAll_28 : decode cX7_lateOfAll 28 = .ok (.ireturn, 1) := by decide +kernel
theorem dX7_isNoLater_0 : decode cX7_isNoLater 0 = .ok (.iconst 0, 1) := by decide +kernel
theorem dX7_isNoLater_1 : decode cX7_isNoLater 1 = .ok (.istore_n 3, 1) := by decide +kernel
theorem dX7_isNoLater_2 : decode cX7_isNoLater 2 = .ok (.iload_n 3, 1) := by decide +kernel
theorem dX7_isNoLater_3 : decode cX7_isNoLater 3 = .ok (.aload_n 1, 1) := by decide +kernel
theorem dX7_isNoLater_4 : decode cX7_isNoLater 4 = .ok (.getfield 105, 3) := by decide +kernel
theorem dX7_isNoLater_7 : decode cX7_isNoLater 7 = .ok (.if_icmp .ge 26, 3) := by decide +kernel
theorem dX7_isNoLater_10 : decode cX7_isNoLater 10 = .ok (.aload_n 0, 1) := by decide +kernel
theorem dX7_isNoLater_11 : decode cX7_isNoLater 11 = .ok (.getfield 21, 3) := by decide +kernel
theorem dX7_isNoLater_14 : decode cX7_isNoLater 14 = .ok (.iload_n 3, 1) := by decide +kernel
theorem dX7_isNoLater_15 : decode cX7_isNoLater 15 = .ok (.iaload, 1) := by decide +kernel
theorem dX7_isNoLater_16 : decode cX7_isNoLater 16 = .ok (.aload_n 2, 1) := by decide +kernel
theorem dX7_isNoLater_17 : decode cX7_isNoLater 17 = .ok (.getfield 21, 3) := by decide +kernel
theorem dX7_isNoLater_20 : decode cX7_isNoLater 20 = .ok (.iload_n 3, 1) := by decide +kernel
theorem dX7_isNoLater_21 : decode cX7_isNoLater 21 = .ok (.iaload, 1) := by decide +kernel
theorem dX7_isNoLater_22 : decode cX7_isNoLater 22 = .ok (.if_icmp .le 5, 3) := by decide +kernel
theorem dX7_isNoLater_25 : decode cX7_isNoLater 25 = .ok (.iconst 0, 1) := by decide +kernel
theorem dX7_isNoLater_26 : decode cX7_isNoLater 26 = .ok (.ireturn, 1) := by decide +kernel
theorem dX7_isNoLater_27 : decode cX7_isNoLater 27 = .ok (.iinc 3 1, 3) := by decide +kernel
theorem dX7_isNoLater_30 : decode cX7_isNoLater 30 = .ok (.goto (-28), 3) := by decide +kernel
theorem dX7_isNoLater_33 : decode cX7_isNoLater 33 = .ok (.iconst 1, 1) := by decide +kernel
theorem dX7_isNoLater_34 : decode cX7_isNoLater 34 = .ok (.ireturn, 1) := by decide +kernel
theorem dX7_tasksWithRest_0 : decode cX7_tasksWithRest 0 = .ok (.iconst 0, 1) := by decide +kernel
theorem dX7_tasksWithRest_1 : decode cX7_tasksWithRest 1 = .ok (.istore_n 2, 1) := by decide +kernel
theorem dX7_tasksWithRest_2 : decode cX7_tasksWithRest 2 = .ok (.iconst 0, 1) := by decide +kernel
theorem dX7_tasksWithRest_3 : decode cX7_tasksWithRest 3 = .ok (.istore_n 3, 1) := by decide +kernel
theorem dX7_tasksWithRest_4 : decode cX7_tasksWithRest 4 = .ok (.iload_n 3, 1) := by decide +kernel
theorem dX7_tasksWithRest_5 : decode cX7_tasksWithRest 5 = .ok (.aload_n 1, 1) := by decide +kernel
theorem dX7_tasksWithRest_6 : decode cX7_tasksWithRest 6 = .ok (.getfield 105, 3) := by decide +kernel
theorem dX7_tasksWithRest_9 : decode cX7_tasksWithRest 9 = .ok (.if_icmp .ge 29, 3) := by decide +kernel
theorem dX7_tasksWithRest_12 : decode cX7_tasksWithRest 12 = .ok (.iload_n 2, 1) := by decide +kernel
theorem dX7_tasksWithRest_13 : decode cX7_tasksWithRest 13 = .ok (.iload_n 3, 1) := by decide +kernel
theorem dX7_tasksWithRest_14 : decode cX7_tasksWithRest 14 = .ok (.aload_n 0, 1) := by decide +kernel
theorem dX7_tasksWithRest_15 : decode cX7_tasksWithRest 15 = .ok (.getfield 15, 3) := by decide +kernel
theorem dX7_tasksWithRest_18 : decode cX7_tasksWithRest 18 = .ok (.iload_n 3, 1) := by decide +kernel
theorem dX7_tasksWithRest_19 : decode cX7_tasksWithRest 19 = .ok (.iaload, 1) := by decide +kernel
theorem dX7_tasksWithRest_20 : decode cX7_tasksWithRest 20 = .ok (.ifCond .le 7, 3) := by decide +kernel
theorem dX7_tasksWithRest_23 : decode cX7_tasksWithRest 23 = .ok (.iconst 1, 1) := by decide +kernel
theorem dX7_tasksWithRest_24 : decode cX7_tasksWithRest 24 = .ok (.goto 4, 3) := by decide +kernel
theorem dX7_tasksWithRest_27 : decode cX7_tasksWithRest 27 = .ok (.iconst 0, 1) := by decide +kernel
theorem dX7_tasksWithRest_28 : decode cX7_tasksWithRest 28 = .ok (.invokestatic 108, 3) := by decide +kernel
theorem dX7_tasksWithRest_31 : decode cX7_tasksWithRest 31 = .ok (.istore_n 2, 1) := by decide +kernel
theorem dX7_tasksWithRest_32 : decode cX7_tasksWithRest 32 = .ok (.iinc 3 1, 3) := by decide +kernel
theorem dX7_tasksWithRest_35 : decode cX7_tasksWithRest 35 = .ok (.goto (-31), 3) := by decide +kernel
theorem dX7_tasksWithRest_38 : decode cX7_tasksWithRest 38 = .ok (.iload_n 2, 1) := by decide +kernel
theorem dX7_tasksWithRest_39 : decode cX7_tasksWithRest 39 = .ok (.ireturn, 1) := by decide +kernel
theorem dX7_mostLoaded_0 : decode cX7_mostLoaded 0 = .ok (.iconst (-1), 1) := by decide +kernel
theorem dX7_mostLoaded_1 : decode cX7_mostLoaded 1 = .ok (.istore_n 2, 1) := by decide +kernel
theorem dX7_mostLoaded_2 : decode cX7_mostLoaded 2 = .ok (.iconst 0, 1) := by decide +kernel
theorem dX7_mostLoaded_3 : decode cX7_mostLoaded 3 = .ok (.istore_n 3, 1) := by decide +kernel
theorem dX7_mostLoaded_4 : decode cX7_mostLoaded 4 = .ok (.iload_n 3, 1) := by decide +kernel
theorem dX7_mostLoaded_5 : decode cX7_mostLoaded 5 = .ok (.aload_n 1, 1) := by decide +kernel
theorem dX7_mostLoaded_6 : decode cX7_mostLoaded 6 = .ok (.getfield 105, 3) := by decide +kernel
theorem dX7_mostLoaded_9 : decode cX7_mostLoaded 9 = .ok (.if_icmp .ge 31, 3) := by decide +kernel
theorem dX7_mostLoaded_12 : decode cX7_mostLoaded 12 = .ok (.iload_n 2, 1) := by decide +kernel
theorem dX7_mostLoaded_13 : decode cX7_mostLoaded 13 = .ok (.iconst (-1), 1) := by decide +kernel
theorem dX7_mostLoaded_14 : decode cX7_mostLoaded 14 = .ok (.if_icmp .eq 18, 3) := by decide +kernel
theorem dX7_mostLoaded_17 : decode cX7_mostLoaded 17 = .ok (.aload_n 0, 1) := by decide +kernel
theorem dX7_mostLoaded_18 : decode cX7_mostLoaded 18 = .ok (.getfield 18, 3) := by decide +kernel
theorem dX7_mostLoaded_21 : decode cX7_mostLoaded 21 = .ok (.iload_n 3, 1) := by decide +kernel
theorem dX7_mostLoaded_22 : decode cX7_mostLoaded 22 = .ok (.iaload, 1) := by decide +kernel
theorem dX7_mostLoaded_23 : decode cX7_mostLoaded 23 = .ok (.aload_n 0, 1) := by decide +kernel
theorem dX7_mostLoaded_24 : decode cX7_mostLoaded 24 = .ok (.getfield 18, 3) := by decide +kernel
theorem dX7_mostLoaded_27 : decode cX7_mostLoaded 27 = .ok (.iload_n 2, 1) := by decide +kernel
theorem dX7_mostLoaded_28 : decode cX7_mostLoaded 28 = .ok (.iaload, 1) := by decide +kernel
theorem dX7_mostLoaded_29 : decode cX7_mostLoaded 29 = .ok (.if_icmp .le 5, 3) := by decide +kernel
theorem dX7_mostLoaded_32 : decode cX7_mostLoaded 32 = .ok (.iload_n 3, 1) := by decide +kernel
theorem dX7_mostLoaded_33 : decode cX7_mostLoaded 33 = .ok (.istore_n 2, 1) := by decide +kernel
theorem dX7_mostLoaded_34 : decode cX7_mostLoaded 34 = .ok (.iinc 3 1, 3) := by decide +kernel
theorem dX7_mostLoaded_37 : decode cX7_mostLoaded 37 = .ok (.goto (-33), 3) := by decide +kernel
theorem dX7_mostLoaded_40 : decode cX7_mostLoaded 40 = .ok (.iload_n 2, 1) := by decide +kernel
theorem dX7_mostLoaded_41 : decode cX7_mostLoaded 41 = .ok (.ireturn, 1) := by decide +kernel
theorem dX8_init_0 : decode cX8_init 0 = .ok (.aload_n 0, 1) := by decide +kernel
theorem dX8_init_1 : decode cX8_init 1 = .ok (.invokespecial 1, 3) := by decide +kernel
theorem dX8_init_4 : decode cX8_init 4 = .ok (.aload_n 0, 1) := by decide +kernel
theorem dX8_init_5 : decode cX8_init 5 = .ok (.iconst 3, 1) := by decide +kernel
theorem dX8_init_6 : decode cX8_init 6 = .ok (.newarray .int, 2) := by decide +kernel
theorem dX8_init_8 : decode cX8_init 8 = .ok (.putfield 7, 3) := by decide +kernel
theorem dX8_init_11 : decode cX8_init 11 = .ok (.return_, 1) := by decide +kernel
theorem dX8_put_0 : decode cX8_put 0 = .ok (.aload_n 0, 1) := by decide +kernel
theorem dX8_put_1 : decode cX8_put 1 = .ok (.iload_n 1, 1) := by decide +kernel
theorem dX8_put_2 : decode cX8_put 2 = .ok (.putfield 13, 3) := by decide +kernel
theorem dX8_put_5 : decode cX8_put 5 = .ok (.aload_n 0, 1) := by decide +kernel
theorem dX8_put_6 : decode cX8_put 6 = .ok (.getfield 7, 3) := by decide +kernel
theorem dX8_put_9 : decode cX8_put 9 = .ok (.iconst 0, 1) := by decide +kernel
theorem dX8_put_10 : decode cX8_put 10 = .ok (.iload_n 2, 1) := by decide +kernel
theorem dX8_put_11 : decode cX8_put 11 = .ok (.iastore, 1) := by decide +kernel
theorem dX8_put_12 : decode cX8_put 12 = .ok (.aload_n 0, 1) := by decide +kernel
theorem dX8_put_13 : decode cX8_put 13 = .ok (.getfield 7, 3) := by decide +kernel
theorem dX8_put_16 : decode cX8_put 16 = .ok (.iconst 1, 1) := by decide +kernel
theorem dX8_put_17 : decode cX8_put 17 = .ok (.iload_n 3, 1) := by decide +kernel
theorem dX8_put_18 : decode cX8_put 18 = .ok (.iastore, 1) := by decide +kernel
theorem dX8_put_19 : decode cX8_put 19 = .ok (.aload_n 0, 1) := by decide +kernel
theorem dX8_put_20 : decode cX8_put 20 = .ok (.getfield 7, 3) := by decide +kernel
theorem dX8_put_23 : decode cX8_put 23 = .ok (.iconst 2, 1) := by decide +kernel
theorem dX8_put_24 : decode cX8_put 24 = .ok (.iload 4, 2) := by decide +kernel
theorem dX8_put_26 : decode cX8_put 26 = .ok (.iastore, 1) := by decide +kernel
theorem dX8_put_27 : decode cX8_put 27 = .ok (.aload_n 0, 1) := by decide +kernel
theorem dX8_put_28 : decode cX8_put 28 = .ok (.lload 5, 2) := by decide +kernel
theorem dX8_put_30 : decode cX8_put 30 = .ok (.putfield 17, 3) := by decide +kernel
theorem dX8_put_33 : decode cX8_put 33 = .ok (.return_, 1) := by decide +kernel
theorem dX8_numbersTold_0 : decode cX8_numbersTold 0 = .ok (.aload_n 0, 1) := by decide +kernel
theorem dX8_numbersTold_1 : decode cX8_numbersTold 1 = .ok (.getfield 13, 3) := by decide +kernel
theorem dX8_numbersTold_4 : decode cX8_numbersTold 4 = .ok (.ifCond .lt 25, 3) := by decide +kernel
theorem dX8_numbersTold_7 : decode cX8_numbersTold 7 = .ok (.aload_n 0, 1) := by decide +kernel
theorem dX8_numbersTold_8 : decode cX8_numbersTold 8 = .ok (.getfield 13, 3) := by decide +kernel
theorem dX8_numbersTold_11 : decode cX8_numbersTold 11 = .ok (.getstatic 21, 3) := by decide +kernel
theorem dX8_numbersTold_14 : decode cX8_numbersTold 14 = .ok (.arraylength, 1) := by decide +kernel
theorem dX8_numbersTold_15 : decode cX8_numbersTold 15 = .ok (.if_icmp .ge 14, 3) := by decide +kernel
theorem dX8_numbersTold_18 : decode cX8_numbersTold 18 = .ok (.getstatic 21, 3) := by decide +kernel
theorem dX8_numbersTold_21 : decode cX8_numbersTold 21 = .ok (.aload_n 0, 1) := by decide +kernel
theorem dX8_numbersTold_22 : decode cX8_numbersTold 22 = .ok (.getfield 13, 3) := by decide +kernel
theorem dX8_numbersTold_25 : decode cX8_numbersTold 25 = .ok (.iaload, 1) := by decide +kernel
theorem dX8_numbersTold_26 : decode cX8_numbersTold 26 = .ok (.goto 4, 3) := by decide +kernel
theorem dX8_numbersTold_29 : decode cX8_numbersTold 29 = .ok (.iconst 0, 1) := by decide +kernel
theorem dX8_numbersTold_30 : decode cX8_numbersTold 30 = .ok (.ireturn, 1) := by decide +kernel
theorem dX9_init_0 : decode cX9_init 0 = .ok (.aload_n 0, 1) := by decide +kernel
theorem dX9_init_1 : decode cX9_init 1 = .ok (.invokespecial 3, 3) := by decide +kernel
theorem dX9_init_4 : decode cX9_init 4 = .ok (.aload_n 0, 1) := by decide +kernel
theorem dX9_init_5 : decode cX9_init 5 = .ok (.sipush 320, 3) := by decide +kernel
theorem dX9_init_8 : decode cX9_init 8 = .ok (.newarray .int, 2) := by decide +kernel
theorem dX9_init_10 : decode cX9_init 10 = .ok (.putfield 9, 3) := by decide +kernel
theorem dX9_init_13 : decode cX9_init 13 = .ok (.aload_n 0, 1) := by decide +kernel
theorem dX9_init_14 : decode cX9_init 14 = .ok (.iconst (-1), 1) := by decide +kernel
theorem dX9_init_15 : decode cX9_init 15 = .ok (.putfield 15, 3) := by decide +kernel
theorem dX9_init_18 : decode cX9_init 18 = .ok (.return_, 1) := by decide +kernel
theorem dX9_bytesOf_0 : decode cX9_bytesOf 0 = .ok (.iconst 0, 1) := by decide +kernel
theorem dX9_bytesOf_1 : decode cX9_bytesOf 1 = .ok (.istore_n 1, 1) := by decide +kernel
theorem dX9_bytesOf_2 : decode cX9_bytesOf 2 = .ok (.bipush 24, 2) := by decide +kernel
theorem dX9_bytesOf_4 : decode cX9_bytesOf 4 = .ok (.istore_n 2, 1) := by decide +kernel
theorem dX9_bytesOf_5 : decode cX9_bytesOf 5 = .ok (.iload_n 2, 1) := by decide +kernel
theorem dX9_bytesOf_6 : decode cX9_bytesOf 6 = .ok (.ifCond .lt 22, 3) := by decide +kernel
theorem dX9_bytesOf_9 : decode cX9_bytesOf 9 = .ok (.iload_n 0, 1) := by decide +kernel
theorem dX9_bytesOf_10 : decode cX9_bytesOf 10 = .ok (.iload_n 2, 1) := by decide +kernel
theorem dX9_bytesOf_11 : decode cX9_bytesOf 11 = .ok (.iushr, 1) := by decide +kernel
theorem dX9_bytesOf_12 : decode cX9_bytesOf 12 = .ok (.sipush 255, 3) := by decide +kernel
theorem dX9_bytesOf_15 : decode cX9_bytesOf 15 = .ok (.iand, 1) := by decide +kernel
theorem dX9_bytesOf_16 : decode cX9_bytesOf 16 = .ok (.ifCond .eq 6, 3) := by decide +kernel
theorem dX9_bytesOf_19 : decode cX9_bytesOf 19 = .ok (.iinc 1 1, 3) := by decide +kernel
theorem dX9_bytesOf_22 : decode cX9_bytesOf 22 = .ok (.iinc 2 (-8), 3) := by decide +kernel
theorem dX9_bytesOf_25 : decode cX9_bytesOf 25 = .ok (.goto (-20), 3) := by decide +kernel
theorem dX9_bytesOf_28 : decode cX9_bytesOf 28 = .ok (.iload_n 1, 1) := by decide +kernel
theorem dX9_bytesOf_29 : decode cX9_bytesOf 29 = .ok (.ireturn, 1) := by decide +kernel
theorem dX9_append_0 : decode cX9_append 0 = .ok (.bipush 24, 2) := by decide +kernel
theorem dX9_append_2 : decode cX9_append 2 = .ok (.istore_n 2, 1) := by decide +kernel
theorem dX9_append_3 : decode cX9_append 3 = .ok (.iload_n 2, 1) := by decide +kernel
theorem dX9_append_4 : decode cX9_append 4 = .ok (.ifCond .lt 51, 3) := by decide +kernel
theorem dX9_append_7 : decode cX9_append 7 = .ok (.iload_n 1, 1) := by decide +kernel
theorem dX9_append_8 : decode cX9_append 8 = .ok (.iload_n 2, 1) := by decide +kernel
theorem dX9_append_9 : decode cX9_append 9 = .ok (.iushr, 1) := by decide +kernel
theorem dX9_append_10 : decode cX9_append 10 = .ok (.sipush 255, 3) := by decide +kernel
theorem dX9_append_13 : decode cX9_append 13 = .ok (.iand, 1) := by decide +kernel
theorem dX9_append_14 : decode cX9_append 14 = .ok (.istore_n 3, 1) := by decide +kernel
theorem dX9_append_15 : decode cX9_append 15 = .ok (.iload_n 3, 1) := by decide +kernel
theorem dX9_append_16 : decode cX9_append 16 = .ok (.ifCond .eq 33, 3) := by decide +kernel
theorem dX9_append_19 : decode cX9_append 19 = .ok (.aload_n 0, 1) := by decide +kernel
theorem dX9_append_20 : decode cX9_append 20 = .ok (.getfield 19, 3) := by decide +kernel
theorem dX9_append_23 : decode cX9_append 23 = .ok (.sipush 320, 3) := by decide +kernel
theorem dX9_append_26 : decode cX9_append 26 = .ok (.if_icmp .ge 23, 3) := by decide +kernel
theorem dX9_append_29 : decode cX9_append 29 = .ok (.aload_n 0, 1) := by decide +kernel
theorem dX9_append_30 : decode cX9_append 30 = .ok (.getfield 9, 3) := by decide +kernel
theorem dX9_append_33 : decode cX9_append 33 = .ok (.aload_n 0, 1) := by decide +kernel
theorem dX9_append_34 : decode cX9_append 34 = .ok (.getfield 19, 3) := by decide +kernel
theorem dX9_append_37 : decode cX9_append 37 = .ok (.iload_n 3, 1) := by decide +kernel
theorem dX9_append_38 : decode cX9_append 38 = .ok (.iastore, 1) := by decide +kernel
theorem dX9_append_39 : decode cX9_append 39 = .ok (.aload_n 0, 1) := by decide +kernel
theorem dX9_append_40 : decode cX9_append 40 = .ok (.dup, 1) := by decide +kernel
theorem dX9_append_41 : decode cX9_append 41 = .ok (.getfield 19, 3) := by decide +kernel
theorem dX9_append_44 : decode cX9_append 44 = .ok (.iconst 1, 1) := by decide +kernel
theorem dX9_append_45 : decode cX9_append 45 = .ok (.iadd, 1) := by decide +kernel
theorem dX9_append_46 : decode cX9_append 46 = .ok (.putfield 19, 3) := by decide +kernel
theorem dX9_append_49 : decode cX9_append 49 = .ok (.iinc 2 (-8), 3) := by decide +kernel
theorem dX9_append_52 : decode cX9_append 52 = .ok (.goto (-49), 3) := by decide +kernel
theorem dX9_append_55 : decode cX9_append 55 = .ok (.return_, 1) := by decide +kernel
theorem dX9_rewind_0 : decode cX9_rewind 0 = .ok (.aload_n 0, 1) := by decide +kernel
theorem dX9_rewind_1 : decode cX9_rewind 1 = .ok (.iconst 0, 1) := by decide +kernel
theorem dX9_rewind_2 : decode cX9_rewind 2 = .ok (.putfield 22, 3) := by decide +kernel
theorem dX9_rewind_5 : decode cX9_rewind 5 = .ok (.aload_n 0, 1) := by decide +kernel
theorem dX9_rewind_6 : decode cX9_rewind 6 = .ok (.iconst 0, 1) := by decide +kernel
theorem dX9_rewind_7 : decode cX9_rewind 7 = .ok (.putfield 25, 3) := by decide +kernel
theorem dX9_rewind_10 : decode cX9_rewind 10 = .ok (.aload_n 0, 1) := by decide +kernel
theorem dX9_rewind_11 : decode cX9_rewind 11 = .ok (.iconst (-1), 1) := by decide +kernel
theorem dX9_rewind_12 : decode cX9_rewind 12 = .ok (.putfield 15, 3) := by decide +kernel
theorem dX9_rewind_15 : decode cX9_rewind 15 = .ok (.return_, 1) := by decide +kernel
theorem dX9_refuse_0 : decode cX9_refuse 0 = .ok (.aload_n 0, 1) := by decide +kernel
theorem dX9_refuse_1 : decode cX9_refuse 1 = .ok (.getfield 15, 3) := by decide +kernel
theorem dX9_refuse_4 : decode cX9_refuse 4 = .ok (.iconst (-1), 1) := by decide +kernel
theorem dX9_refuse_5 : decode cX9_refuse 5 = .ok (.if_icmp .ne 8, 3) := by decide +kernel
theorem dX9_refuse_8 : decode cX9_refuse 8 = .ok (.aload_n 0, 1) := by decide +kernel
theorem dX9_refuse_9 : decode cX9_refuse 9 = .ok (.iload_n 1, 1) := by decide +kernel
theorem dX9_refuse_10 : decode cX9_refuse 10 = .ok (.putfield 15, 3) := by decide +kernel
theorem dX9_refuse_13 : decode cX9_refuse 13 = .ok (.return_, 1) := by decide +kernel
theorem dX9_refusePart_0 : decode cX9_refusePart 0 = .ok (.aload_n 0, 1) := by decide +kernel
theorem dX9_refusePart_1 : decode cX9_refusePart 1 = .ok (.aload_n 0, 1) := by decide +kernel
theorem dX9_refusePart_2 : decode cX9_refusePart 2 = .ok (.getfield 25, 3) := by decide +kernel
theorem dX9_refusePart_5 : decode cX9_refusePart 5 = .ok (.invokevirtual 28, 3) := by decide +kernel
theorem dX9_refusePart_8 : decode cX9_refusePart 8 = .ok (.return_, 1) := by decide +kernel
theorem dX9_isSound_0 : decode cX9_isSound 0 = .ok (.aload_n 0, 1) := by decide +kernel
theorem dX9_isSound_1 : decode cX9_isSound 1 = .ok (.getfield 15, 3) := by decide +kernel
theorem dX9_isSound_4 : decode cX9_isSound 4 = .ok (.iconst (-1), 1) := by decide +kernel
theorem dX9_isSound_5 : decode cX9_isSound 5 = .ok (.if_icmp .ne 7, 3) := by decide +kernel
theorem dX9_isSound_8 : decode cX9_isSound 8 = .ok (.iconst 1, 1) := by decide +kernel
theorem dX9_isSound_9 : decode cX9_isSound 9 = .ok (.goto 4, 3) := by decide +kernel
theorem dX9_isSound_12 : decode cX9_isSound 12 = .ok (.iconst 0, 1) := by decide +kernel
theorem dX9_isSound_13 : decode cX9_isSound 13 = .ok (.ireturn, 1) := by decide +kernel
theorem dX9_readWord_0 : decode cX9_readWord 0 = .ok (.aload_n 0, 1) := by decide +kernel
theorem dX9_readWord_1 : decode cX9_readWord 1 = .ok (.invokevirtual 32, 3) := by decide +kernel
theorem dX9_readWord_4 : decode cX9_readWord 4 = .ok (.lconst 0, 1) := by decide +kernel
theorem dX9_readWord_5 : decode cX9_readWord 5 = .ok (.lstore_n 1, 1) := by decide +kernel
theorem dX9_readWord_6 : decode cX9_readWord 6 = .ok (.aload_n 0, 1) := by decide +kernel
theorem dX9_readWord_7 : decode cX9_readWord 7 = .ok (.getfield 22, 3) := by decide +kernel
theorem dX9_readWord_10 : decode cX9_readWord 10 = .ok (.aload_n 0, 1) := by decide +kernel
theorem dX9_readWord_11 : decode cX9_readWord 11 = .ok (.getfield 19, 3) := by decide +kernel
theorem dX9_readWord_14 : decode cX9_readWord 14 = .ok (.if_icmp .ge 60, 3) := by decide +kernel
theorem dX9_readWord_17 : decode cX9_readWord 17 = .ok (.aload_n 0, 1) := by decide +kernel
theorem dX9_readWord_18 : decode cX9_readWord 18 = .ok (.getfield 9, 3) := by decide +kernel
theorem dX9_readWord_21 : decode cX9_readWord 21 = .ok (.aload_n 0, 1) := by decide +kernel
theorem dX9_readWord_22 : decode cX9_readWord 22 = .ok (.getfield 22, 3) := by decide +kernel
theorem dX9_readWord_25 : decode cX9_readWord 25 = .ok (.iaload, 1) := by decide +kernel
theorem dX9_readWord_26 : decode cX9_readWord 26 = .ok (.bipush 97, 2) := by decide +kernel
theorem dX9_readWord_28 : decode cX9_readWord 28 = .ok (.if_icmp .lt 46, 3) := by decide +kernel
theorem dX9_readWord_31 : decode cX9_readWord 31 = .ok (.aload_n 0, 1) := by decide +kernel
theorem dX9_readWord_32 : decode cX9_readWord 32 = .ok (.getfield 9, 3) := by decide +kernel
theorem dX9_readWord_35 : decode cX9_readWord 35 = .ok (.aload_n 0, 1) := by decide +kernel
theorem dX9_readWord_36 : decode cX9_readWord 36 = .ok (.getfield 22, 3) := by decide +kernel
theorem dX9_readWord_39 : decode cX9_readWord 39 = .ok (.iaload, 1) := by decide +kernel
theorem dX9_readWord_40 : decode cX9_readWord 40 = .ok (.bipush 122, 2) := by decide +kernel
theorem dX9_readWord_42 : decode cX9_readWord 42 = .ok (.if_icmp .gt 32, 3) := by decide +kernel
theorem dX9_readWord_45 : decode cX9_readWord 45 = .ok (.lload_n 1, 1) := by decide +kernel
theorem dX9_readWord_46 : decode cX9_readWord 46 = .ok (.bipush 8, 2) := by decide +kernel
theorem dX9_readWord_48 : decode cX9_readWord 48 = .ok (.lshl, 1) := by decide +kernel
theorem dX9_readWord_49 : decode cX9_readWord 49 = .ok (.aload_n 0, 1) := by decide +kernel
theorem dX9_readWord_50 : decode cX9_readWord 50 = .ok (.getfield 9, 3) := by decide +kernel
theorem dX9_readWord_53 : decode cX9_readWord 53 = .ok (.aload_n 0, 1) := by decide +kernel
theorem dX9_readWord_54 : decode cX9_readWord 54 = .ok (.getfield 22, 3) := by decide +kernel
theorem dX9_readWord_57 : decode cX9_readWord 57 = .ok (.iaload, 1) := by decide +kernel
theorem dX9_readWord_58 : decode cX9_readWord 58 = .ok (.i2l, 1) := by decide +kernel
theorem dX9_readWord_59 : decode cX9_readWord 59 = .ok (.lor, 1) := by decide +kernel
theorem dX9_readWord_60 : decode cX9_readWord 60 = .ok (.lstore_n 1, 1) := by decide +kernel
theorem dX9_readWord_61 : decode cX9_readWord 61 = .ok (.aload_n 0, 1) := by decide +kernel
theorem dX9_readWord_62 : decode cX9_readWord 62 = .ok (.dup, 1) := by decide +kernel
theorem dX9_readWord_63 : decode cX9_readWord 63 = .ok (.getfield 22, 3) := by decide +kernel
theorem dX9_readWord_66 : decode cX9_readWord 66 = .ok (.iconst 1, 1) := by decide +kernel
theorem dX9_readWord_67 : decode cX9_readWord 67 = .ok (.iadd, 1) := by decide +kernel
theorem dX9_readWord_68 : decode cX9_readWord 68 = .ok (.putfield 22, 3) := by decide +kernel
theorem dX9_readWord_71 : decode cX9_readWord 71 = .ok (.goto (-65), 3) := by decide +kernel
theorem dX9_readWord_74 : decode cX9_readWord 74 = .ok (.aload_n 0, 1) := by decide +kernel
theorem dX9_readWord_75 : decode cX9_readWord 75 = .ok (.getfield 22, 3) := by decide +kernel
theorem dX9_readWord_78 : decode cX9_readWord 78 = .ok (.aload_n 0, 1) := by decide +kernel
theorem dX9_readWord_79 : decode cX9_readWord 79 = .ok (.getfield 25, 3) := by decide +kernel
theorem dX9_readWord_82 : decode cX9_readWord 82 = .ok (.if_icmp .eq 17, 3) := by decide +kernel
theorem dX9_readWord_85 : decode cX9_readWord 85 = .ok (.aload_n 0, 1) := by decide +kernel
theorem dX9_readWord_86 : decode cX9_readWord 86 = .ok (.getfield 22, 3) := by decide +kernel
theorem dX9_readWord_89 : decode cX9_readWord 89 = .ok (.aload_n 0, 1) := by decide +kernel
theorem dX9_readWord_90 : decode cX9_readWord 90 = .ok (.getfield 25, 3) := by decide +kernel
theorem dX9_readWord_93 : decode cX9_readWord 93 = .ok (.isub, 1) := by decide +kernel
theorem dX9_readWord_94 : decode cX9_readWord 94 = .ok (.bipush 7, 2) := by decide +kernel
theorem dX9_readWord_96 : decode cX9_readWord 96 = .ok (.if_icmp .le 9, 3) := by decide +kernel
theorem dX9_readWord_99 : decode cX9_readWord 99 = .ok (.aload_n 0, 1) := by decide +kernel
theorem dX9_readWord_100 : decode cX9_readWord 100 = .ok (.invokevirtual 35, 3) := by decide +kernel
theorem dX9_readWord_103 : decode cX9_readWord 103 = .ok (.lconst 0, 1) := by decide +kernel
theorem dX9_readWord_104 : decode cX9_readWord 104 = .ok (.lreturn, 1) := by decide +kernel
theorem dX9_readWord_105 : decode cX9_readWord 105 = .ok (.lload_n 1, 1) := by decide +kernel
theorem dX9_readWord_106 : decode cX9_readWord 106 = .ok (.lreturn, 1) := by decide +kernel
theorem dX9_readNumber_0 : decode cX9_readNumber 0 = .ok (.aload_n 0, 1) := by decide +kernel
theorem dX9_readNumber_1 : decode cX9_readNumber 1 = .ok (.invokevirtual 32, 3) := by decide +kernel
theorem dX9_readNumber_4 : decode cX9_readNumber 4 = .ok (.iconst 0, 1) := by decide +kernel
theorem dX9_readNumber_5 : decode cX9_readNumber 5 = .ok (.istore_n 3, 1) := by decide +kernel
theorem dX9_readNumber_6 : decode cX9_readNumber 6 = .ok (.aload_n 0, 1) := by decide +kernel
theorem dX9_readNumber_7 : decode cX9_readNumber 7 = .ok (.getfield 22, 3) := by decide +kernel
theorem dX9_readNumber_10 : decode cX9_readNumber 10 = .ok (.aload_n 0, 1) := by decide +kernel
theorem dX9_readNumber_11 : decode cX9_readNumber 11 = .ok (.getfield 19, 3) := by decide +kernel
theorem dX9_readNumber_14 : decode cX9_readNumber 14 = .ok (.if_icmp .ge 67, 3) := by decide +kernel
theorem dX9_readNumber_17 : decode cX9_readNumber 17 = .ok (.aload_n 0, 1) := by decide +kernel
theorem dX9_readNumber_18 : decode cX9_readNumber 18 = .ok (.getfield 9, 3) := by decide +kernel
theorem dX9_readNumber_21 : decode cX9_readNumber 21 = .ok (.aload_n 0, 1) := by decide +kernel
theorem dX9_readNumber_22 : decode cX9_readNumber 22 = .ok (.getfield 22, 3) := by decide +kernel
theorem dX9_readNumber_25 : decode cX9_readNumber 25 = .ok (.iaload, 1) := by decide +kernel
theorem dX9_readNumber_26 : decode cX9_readNumber 26 = .ok (.bipush 48, 2) := by decide +kernel
theorem dX9_readNumber_28 : decode cX9_readNumber 28 = .ok (.if_icmp .lt 53, 3) := by decide +kernel
theorem dX9_readNumber_31 : decode cX9_readNumber 31 = .ok (.aload_n 0, 1) := by decide +kernel
theorem dX9_readNumber_32 : decode cX9_readNumber 32 = .ok (.getfield 9, 3) := by decide +kernel
theorem dX9_readNumber_35 : decode cX9_readNumber 35 = .ok (.aload_n 0, 1) := by decide +kernel
theorem dX9_readNumber_36 : decode cX9_readNumber 36 = .ok (.getfield 22, 3) := by decide +kernel
theorem dX9_readNumber_39 : decode cX9_readNumber 39 = .ok (.iaload, 1) := by decide +kernel
theorem dX9_readNumber_40 : decode cX9_readNumber 40 = .ok (.bipush 57, 2) := by decide +kernel
theorem dX9_readNumber_42 : decode cX9_readNumber 42 = .ok (.if_icmp .gt 39, 3) := by decide +kernel
theorem dX9_readNumber_45 : decode cX9_readNumber 45 = .ok (.iload_n 3, 1) := by decide +kernel
theorem dX9_readNumber_46 : decode cX9_readNumber 46 = .ok (.bipush 10, 2) := by decide +kernel
theorem dX9_readNumber_48 : decode cX9_readNumber 48 = .ok (.imul, 1) := by decide +kernel
theorem dX9_readNumber_49 : decode cX9_readNumber 49 = .ok (.aload_n 0, 1) := by decide +kernel
theorem dX9_readNumber_50 : decode cX9_readNumber 50 = .ok (.getfield 9, 3) := by decide +kernel
theorem dX9_readNumber_53 : decode cX9_readNumber 53 = .ok (.aload_n 0, 1) := by decide +kernel
theorem dX9_readNumber_54 : decode cX9_readNumber 54 = .ok (.getfield 22, 3) := by decide +kernel
theorem dX9_readNumber_57 : decode cX9_readNumber 57 = .ok (.iaload, 1) := by decide +kernel
theorem dX9_readNumber_58 : decode cX9_readNumber 58 = .ok (.iadd, 1) := by decide +kernel
theorem dX9_readNumber_59 : decode cX9_readNumber 59 = .ok (.bipush 48, 2) := by decide +kernel
theorem dX9_readNumber_61 : decode cX9_readNumber 61 = .ok (.isub, 1) := by decide +kernel
theorem dX9_readNumber_62 : decode cX9_readNumber 62 = .ok (.ldc 38, 2) := by decide +kernel
theorem dX9_readNumber_64 : decode cX9_readNumber 64 = .ok (.invokestatic 39, 3) := by decide +kernel
theorem dX9_readNumber_67 : decode cX9_readNumber 67 = .ok (.istore_n 3, 1) := by decide +kernel
theorem dX9_readNumber_68 : decode cX9_readNumber 68 = .ok (.aload_n 0, 1) := by decide +kernel
theorem dX9_readNumber_69 : decode cX9_readNumber 69 = .ok (.dup, 1) := by decide +kernel
theorem dX9_readNumber_70 : decode cX9_readNumber 70 = .ok (.getfield 22, 3) := by decide +kernel
theorem dX9_readNumber_73 : decode cX9_readNumber 73 = .ok (.iconst 1, 1) := by decide +kernel
theorem dX9_readNumber_74 : decode cX9_readNumber 74 = .ok (.iadd, 1) := by decide +kernel
theorem dX9_readNumber_75 : decode cX9_readNumber 75 = .ok (.putfield 22, 3) := by decide +kernel
theorem dX9_readNumber_78 : decode cX9_readNumber 78 = .ok (.goto (-72), 3) := by decide +kernel
theorem dX9_readNumber_81 : decode cX9_readNumber 81 = .ok (.aload_n 0, 1) := by decide +kernel
theorem dX9_readNumber_82 : decode cX9_readNumber 82 = .ok (.getfield 22, 3) := by decide +kernel
theorem dX9_readNumber_85 : decode cX9_readNumber 85 = .ok (.aload_n 0, 1) := by decide +kernel
theorem dX9_readNumber_86 : decode cX9_readNumber 86 = .ok (.getfield 25, 3) := by decide +kernel
theorem dX9_readNumber_89 : decode cX9_readNumber 89 = .ok (.if_icmp .eq 13, 3) := by decide +kernel
theorem dX9_readNumber_92 : decode cX9_readNumber 92 = .ok (.iload_n 3, 1) := by decide +kernel
theorem dX9_readNumber_93 : decode cX9_readNumber 93 = .ok (.iload_n 1, 1) := by decide +kernel
theorem dX9_readNumber_94 : decode cX9_readNumber 94 = .ok (.if_icmp .lt 8, 3) := by decide +kernel
theorem dX9_readNumber_97 : decode cX9_readNumber 97 = .ok (.iload_n 3, 1) := by decide +kernel
theorem dX9_readNumber_98 : decode cX9_readNumber 98 = .ok (.iload_n 2, 1) := by decide +kernel
theorem dX9_readNumber_99 : decode cX9_readNumber 99 = .ok (.if_icmp .le 7, 3) := by decide +kernel
theorem dX9_readNumber_102 : decode cX9_readNumber 102 = .ok (.aload_n 0, 1) := by decide +kernel
theorem dX9_readNumber_103 : decode cX9_readNumber 103 = .ok (.invokevirtual 35, 3) := by decide +kernel
theorem dX9_readNumber_106 : decode cX9_readNumber 106 = .ok (.iload_n 3, 1) := by decide +kernel
theorem dX9_readNumber_107 : decode cX9_readNumber 107 = .ok (.ireturn, 1) := by decide +kernel
theorem dX9_readSemicolon_0 : decode cX9_readSemicolon 0 = .ok (.aload_n 0, 1) := by decide +kernel
theorem dX9_readSemicolon_1 : decode cX9_readSemicolon 1 = .ok (.invokevirtual 32, 3) := by decide +kernel
theorem dX9_readSemicolon_4 : decode cX9_readSemicolon 4 = .ok (.aload_n 0, 1) := by decide +kernel
theorem dX9_readSemicolon_5 : decode cX9_readSemicolon 5 = .ok (.getfield 22, 3) := by decide +kernel
theorem dX9_readSemicolon_8 : decode cX9_readSemicolon 8 = .ok (.aload_n 0, 1) := by decide +kernel
theorem dX9_readSemicolon_9 : decode cX9_readSemicolon 9 = .ok (.getfield 19, 3) := by decide +kernel
theorem dX9_readSemicolon_12 : decode cX9_readSemicolon 12 = .ok (.if_icmp .lt 5, 3) := by decide +kernel
theorem dX9_readSemicolon_15 : decode cX9_readSemicolon 15 = .ok (.iconst 0, 1) := by decide +kernel
theorem dX9_readSemicolon_16 : decode cX9_readSemicolon 16 = .ok (.ireturn, 1) := by decide +kernel
theorem dX9_readSemicolon_17 : decode cX9_readSemicolon 17 = .ok (.aload_n 0, 1) := by decide +kernel
theorem dX9_readSemicolon_18 : decode cX9_readSemicolon 18 = .ok (.getfield 9, 3) := by decide +kernel
theorem dX9_readSemicolon_21 : decode cX9_readSemicolon 21 = .ok (.aload_n 0, 1) := by decide +kernel
theorem dX9_readSemicolon_22 : decode cX9_readSemicolon 22 = .ok (.getfield 22, 3) := by decide +kernel
theorem dX9_readSemicolon_25 : decode cX9_readSemicolon 25 = .ok (.iaload, 1) := by decide +kernel
theorem dX9_readSemicolon_26 : decode cX9_readSemicolon 26 = .ok (.bipush 59, 2) := by decide +kernel
theorem dX9_readSemicolon_28 : decode cX9_readSemicolon 28 = .ok (.if_icmp .eq 9, 3) := by decide +kernel
theorem dX9_readSemicolon_31 : decode cX9_readSemicolon 31 = .ok (.aload_n 0, 1) := by decide +kernel
theorem dX9_readSemicolon_32 : decode cX9_readSemicolon 32 = .ok (.invokevirtual 35, 3) := by decide +kernel
theorem dX9_readSemicolon_35 : decode cX9_readSemicolon 35 = .ok (.iconst 0, 1) := by decide +kernel
theorem dX9_readSemicolon_36 : decode cX9_readSemicolon 36 = .ok (.ireturn, 1) := by decide +kernel
theorem dX9_readSemicolon_37 : decode cX9_readSemicolon 37 = .ok (.aload_n 0, 1) := by decide +kernel
theorem dX9_readSemicolon_38 : decode cX9_readSemicolon 38 = .ok (.dup, 1) := by decide +kernel
theorem dX9_readSemicolon_39 : decode cX9_readSemicolon 39 = .ok (.getfield 22, 3) := by decide +kernel
theorem dX9_readSemicolon_42 : decode cX9_readSemicolon 42 = .ok (.iconst 1, 1) := by decide +kernel
theorem dX9_readSemicolon_43 : decode cX9_readSemicolon 43 = .ok (.iadd, 1) := by decide +kernel
theorem dX9_readSemicolon_44 : decode cX9_readSemicolon 44 = .ok (.putfield 22, 3) := by decide +kernel
theorem dX9_readSemicolon_47 : decode cX9_readSemicolon 47 = .ok (.iconst 1, 1) := by decide +kernel
theorem dX9_readSemicolon_48 : decode cX9_readSemicolon 48 = .ok (.ireturn, 1) := by decide +kernel
theorem dX9_goToNextPart_0 : decode cX9_goToNextPart 0 = .ok (.aload_n 0, 1) := by decide +kernel
theorem dX9_goToNextPart_1 : decode cX9_goToNextPart 1 = .ok (.getfield 22, 3) := by decide +kernel
theorem dX9_goToNextPart_4 : decode cX9_goToNextPart 4 = .ok (.aload_n 0, 1) := by decide +kernel
theorem dX9_goToNextPart_5 : decode cX9_goToNextPart 5 = .ok (.getfield 19, 3) := by decide +kernel
theorem dX9_goToNextPart_8 : decode cX9_goToNextPart 8 = .ok (.if_icmp .ge 30, 3) := by decide +kernel
theorem dX9_goToNextPart_11 : decode cX9_goToNextPart 11 = .ok (.aload_n 0, 1) := by decide +kernel
theorem dX9_goToNextPart_12 : decode cX9_goToNextPart 12 = .ok (.getfield 9, 3) := by decide +kernel
theorem dX9_goToNextPart_15 : decode cX9_goToNextPart 15 = .ok (.aload_n 0, 1) := by decide +kernel
theorem dX9_goToNextPart_16 : decode cX9_goToNextPart 16 = .ok (.getfield 22, 3) := by decide +kernel
theorem dX9_goToNextPart_19 : decode cX9_goToNextPart 19 = .ok (.iaload, 1) := by decide +kernel
theorem dX9_goToNextPart_20 : decode cX9_goToNextPart 20 = .ok (.bipush 32, 2) := by decide +kernel
theorem dX9_goToNextPart_22 : decode cX9_goToNextPart 22 = .ok (.if_icmp .ne 16, 3) := by decide +kernel
theorem dX9_goToNextPart_25 : decode cX9_goToNextPart 25 = .ok (.aload_n 0, 1) := by decide +kernel
theorem dX9_goToNextPart_26 : decode cX9_goToNextPart 26 = .ok (.dup, 1) := by decide +kernel
theorem dX9_goToNextPart_27 : decode cX9_goToNextPart 27 = .ok (.getfield 22, 3) := by decide +kernel
theorem dX9_goToNextPart_30 : decode cX9_goToNextPart 30 = .ok (.iconst 1, 1) := by decide +kernel
theorem dX9_goToNextPart_31 : decode cX9_goToNextPart 31 = .ok (.iadd, 1) := by decide +kernel
theorem dX9_goToNextPart_32 : decode cX9_goToNextPart 32 = .ok (.putfield 22, 3) := by decide +kernel
theorem dX9_goToNextPart_35 : decode cX9_goToNextPart 35 = .ok (.goto (-35), 3) := by decide +kernel
theorem dX9_goToNextPart_38 : decode cX9_goToNextPart 38 = .ok (.aload_n 0, 1) := by decide +kernel
theorem dX9_goToNextPart_39 : decode cX9_goToNextPart 39 = .ok (.aload_n 0, 1) := by decide +kernel
theorem dX9_goToNextPart_40 : decode cX9_goToNextPart 40 = .ok (.getfield 22, 3) := by decide +kernel
theorem dX9_goToNextPart_43 : decode cX9_goToNextPart 43 = .ok (.putfield 25, 3) := by decide +kernel
theorem dX9_goToNextPart_46 : decode cX9_goToNextPart 46 = .ok (.return_, 1) := by decide +kernel
