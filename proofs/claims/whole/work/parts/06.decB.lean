-- decode rows, begun from the printed rows of the claim
theorem dX10_init_0 : decode cX10_init 0 = .ok (.aload_n 0, 1) := by decide +kernel
theorem dX10_init_1 : decode cX10_init 1 = .ok (.invokespecial 3, 3) := by decide +kernel
theorem dX10_init_4 : decode cX10_init 4 = .ok (.aload_n 0, 1) := by decide +kernel
theorem dX10_init_5 : decode cX10_init 5 = .ok (.new 9, 3) := by decide +kernel
theorem dX10_init_8 : decode cX10_init 8 = .ok (.dup, 1) := by decide +kernel
theorem dX10_init_9 : decode cX10_init 9 = .ok (.invokespecial 11, 3) := by decide +kernel
theorem dX10_init_12 : decode cX10_init 12 = .ok (.putfield 12, 3) := by decide +kernel
theorem dX10_init_15 : decode cX10_init 15 = .ok (.return_, 1) := by decide +kernel
theorem dX10_readChip_0 : decode cX10_readChip 0 = .ok (.aload_n 0, 1) := by decide +kernel
theorem dX10_readChip_1 : decode cX10_readChip 1 = .ok (.getfield 12, 3) := by decide +kernel
theorem dX10_readChip_4 : decode cX10_readChip 4 = .ok (.invokevirtual 18, 3) := by decide +kernel
theorem dX10_readChip_7 : decode cX10_readChip 7 = .ok (.aload_n 1, 1) := by decide +kernel
theorem dX10_readChip_8 : decode cX10_readChip 8 = .ok (.invokevirtual 21, 3) := by decide +kernel
theorem dX10_readChip_11 : decode cX10_readChip 11 = .ok (.iconst 1, 1) := by decide +kernel
theorem dX10_readChip_12 : decode cX10_readChip 12 = .ok (.istore_n 2, 1) := by decide +kernel
theorem dX10_readChip_13 : decode cX10_readChip 13 = .ok (.iconst 0, 1) := by decide +kernel
theorem dX10_readChip_14 : decode cX10_readChip 14 = .ok (.istore_n 3, 1) := by decide +kernel
theorem dX10_readChip_15 : decode cX10_readChip 15 = .ok (.iload_n 2, 1) := by decide +kernel
theorem dX10_readChip_16 : decode cX10_readChip 16 = .ok (.ifCond .eq 47, 3) := by decide +kernel
theorem dX10_readChip_19 : decode cX10_readChip 19 = .ok (.iload_n 3, 1) := by decide +kernel
theorem dX10_readChip_20 : decode cX10_readChip 20 = .ok (.sipush 320, 3) := by decide +kernel
theorem dX10_readChip_23 : decode cX10_readChip 23 = .ok (.if_icmp .gt 40, 3) := by decide +kernel
theorem dX10_readChip_26 : decode cX10_readChip 26 = .ok (.aload_n 0, 1) := by decide +kernel
theorem dX10_readChip_27 : decode cX10_readChip 27 = .ok (.aload_n 1, 1) := by decide +kernel
theorem dX10_readChip_28 : decode cX10_readChip 28 = .ok (.invokevirtual 26, 3) := by decide +kernel
theorem dX10_readChip_31 : decode cX10_readChip 31 = .ok (.aload_n 0, 1) := by decide +kernel
theorem dX10_readChip_32 : decode cX10_readChip 32 = .ok (.getfield 12, 3) := by decide +kernel
theorem dX10_readChip_35 : decode cX10_readChip 35 = .ok (.invokevirtual 30, 3) := by decide +kernel
theorem dX10_readChip_38 : decode cX10_readChip 38 = .ok (.ifCond .eq 17, 3) := by decide +kernel
theorem dX10_readChip_41 : decode cX10_readChip 41 = .ok (.aload_n 0, 1) := by decide +kernel
theorem dX10_readChip_42 : decode cX10_readChip 42 = .ok (.getfield 12, 3) := by decide +kernel
theorem dX10_readChip_45 : decode cX10_readChip 45 = .ok (.invokevirtual 34, 3) := by decide +kernel
theorem dX10_readChip_48 : decode cX10_readChip 48 = .ok (.ifCond .eq 7, 3) := by decide +kernel
theorem dX10_readChip_51 : decode cX10_readChip 51 = .ok (.iconst 1, 1) := by decide +kernel
theorem dX10_readChip_52 : decode cX10_readChip 52 = .ok (.goto 4, 3) := by decide +kernel
theorem dX10_readChip_55 : decode cX10_readChip 55 = .ok (.iconst 0, 1) := by decide +kernel
theorem dX10_readChip_56 : decode cX10_readChip 56 = .ok (.istore_n 2, 1) := by decide +kernel
theorem dX10_readChip_57 : decode cX10_readChip 57 = .ok (.iinc 3 1, 3) := by decide +kernel
theorem dX10_readChip_60 : decode cX10_readChip 60 = .ok (.goto (-45), 3) := by decide +kernel
theorem dX10_readChip_63 : decode cX10_readChip 63 = .ok (.aload_n 1, 1) := by decide +kernel
theorem dX10_readChip_64 : decode cX10_readChip 64 = .ok (.invokevirtual 37, 3) := by decide +kernel
theorem dX10_readChip_67 : decode cX10_readChip 67 = .ok (.ifCond .ne 17, 3) := by decide +kernel
theorem dX10_readChip_70 : decode cX10_readChip 70 = .ok (.aload_n 0, 1) := by decide +kernel
theorem dX10_readChip_71 : decode cX10_readChip 71 = .ok (.getfield 12, 3) := by decide +kernel
theorem dX10_readChip_74 : decode cX10_readChip 74 = .ok (.aload_n 0, 1) := by decide +kernel
theorem dX10_readChip_75 : decode cX10_readChip 75 = .ok (.getfield 12, 3) := by decide +kernel
theorem dX10_readChip_78 : decode cX10_readChip 78 = .ok (.getfield 40, 3) := by decide +kernel
theorem dX10_readChip_81 : decode cX10_readChip 81 = .ok (.invokevirtual 44, 3) := by decide +kernel
theorem dX10_readChip_84 : decode cX10_readChip 84 = .ok (.aload_n 0, 1) := by decide +kernel
theorem dX10_readChip_85 : decode cX10_readChip 85 = .ok (.getfield 12, 3) := by decide +kernel
theorem dX10_readChip_88 : decode cX10_readChip 88 = .ok (.getfield 48, 3) := by decide +kernel
theorem dX10_readChip_91 : decode cX10_readChip 91 = .ok (.ireturn, 1) := by decide +kernel
theorem dX10_readScript_0 : decode cX10_readScript 0 = .ok (.aload_n 0, 1) := by decide +kernel
theorem dX10_readScript_1 : decode cX10_readScript 1 = .ok (.getfield 12, 3) := by decide +kernel
theorem dX10_readScript_4 : decode cX10_readScript 4 = .ok (.invokevirtual 18, 3) := by decide +kernel
theorem dX10_readScript_7 : decode cX10_readScript 7 = .ok (.aload_n 1, 1) := by decide +kernel
theorem dX10_readScript_8 : decode cX10_readScript 8 = .ok (.iconst 0, 1) := by decide +kernel
theorem dX10_readScript_9 : decode cX10_readScript 9 = .ok (.putfield 51, 3) := by decide +kernel
theorem dX10_readScript_12 : decode cX10_readScript 12 = .ok (.iconst 1, 1) := by decide +kernel
theorem dX10_readScript_13 : decode cX10_readScript 13 = .ok (.istore_n 2, 1) := by decide +kernel
theorem dX10_readScript_14 : decode cX10_readScript 14 = .ok (.iconst 0, 1) := by decide +kernel
theorem dX10_readScript_15 : decode cX10_readScript 15 = .ok (.istore_n 3, 1) := by decide +kernel
theorem dX10_readScript_16 : decode cX10_readScript 16 = .ok (.iload_n 2, 1) := by decide +kernel
theorem dX10_readScript_17 : decode cX10_readScript 17 = .ok (.ifCond .eq 58, 3) := by decide +kernel
theorem dX10_readScript_20 : decode cX10_readScript 20 = .ok (.iload_n 3, 1) := by decide +kernel
theorem dX10_readScript_21 : decode cX10_readScript 21 = .ok (.bipush 12, 2) := by decide +kernel
theorem dX10_readScript_23 : decode cX10_readScript 23 = .ok (.if_icmp .ge 52, 3) := by decide +kernel
theorem dX10_readScript_26 : decode cX10_readScript 26 = .ok (.aload_n 0, 1) := by decide +kernel
theorem dX10_readScript_27 : decode cX10_readScript 27 = .ok (.aload_n 1, 1) := by decide +kernel
theorem dX10_readScript_28 : decode cX10_readScript 28 = .ok (.getfield 54, 3) := by decide +kernel
theorem dX10_readScript_31 : decode cX10_readScript 31 = .ok (.iload_n 3, 1) := by decide +kernel
theorem dX10_readScript_32 : decode cX10_readScript 32 = .ok (.aaload, 1) := by decide +kernel
theorem dX10_readScript_33 : decode cX10_readScript 33 = .ok (.invokevirtual 58, 3) := by decide +kernel
theorem dX10_readScript_36 : decode cX10_readScript 36 = .ok (.aload_n 1, 1) := by decide +kernel
theorem dX10_readScript_37 : decode cX10_readScript 37 = .ok (.iload_n 3, 1) := by decide +kernel
theorem dX10_readScript_38 : decode cX10_readScript 38 = .ok (.iconst 1, 1) := by decide +kernel
theorem dX10_readScript_39 : decode cX10_readScript 39 = .ok (.iadd, 1) := by decide +kernel
theorem dX10_readScript_40 : decode cX10_readScript 40 = .ok (.putfield 51, 3) := by decide +kernel
theorem dX10_readScript_43 : decode cX10_readScript 43 = .ok (.aload_n 0, 1) := by decide +kernel
theorem dX10_readScript_44 : decode cX10_readScript 44 = .ok (.getfield 12, 3) := by decide +kernel
theorem dX10_readScript_47 : decode cX10_readScript 47 = .ok (.invokevirtual 30, 3) := by decide +kernel
theorem dX10_readScript_50 : decode cX10_readScript 50 = .ok (.ifCond .eq 17, 3) := by decide +kernel
theorem dX10_readScript_53 : decode cX10_readScript 53 = .ok (.aload_n 0, 1) := by decide +kernel
theorem dX10_readScript_54 : decode cX10_readScript 54 = .ok (.getfield 12, 3) := by decide +kernel
theorem dX10_readScript_57 : decode cX10_readScript 57 = .ok (.invokevirtual 34, 3) := by decide +kernel
theorem dX10_readScript_60 : decode cX10_readScript 60 = .ok (.ifCond .eq 7, 3) := by decide +kernel
theorem dX10_readScript_63 : decode cX10_readScript 63 = .ok (.iconst 1, 1) := by decide +kernel
theorem dX10_readScript_64 : decode cX10_readScript 64 = .ok (.goto 4, 3) := by decide +kernel
theorem dX10_readScript_67 : decode cX10_readScript 67 = .ok (.iconst 0, 1) := by decide +kernel
theorem dX10_readScript_68 : decode cX10_readScript 68 = .ok (.istore_n 2, 1) := by decide +kernel
theorem dX10_readScript_69 : decode cX10_readScript 69 = .ok (.iinc 3 1, 3) := by decide +kernel
theorem dX10_readScript_72 : decode cX10_readScript 72 = .ok (.goto (-56), 3) := by decide +kernel
theorem dX10_readScript_75 : decode cX10_readScript 75 = .ok (.iload_n 2, 1) := by decide +kernel
theorem dX10_readScript_76 : decode cX10_readScript 76 = .ok (.ifCond .eq 10, 3) := by decide +kernel
theorem dX10_readScript_79 : decode cX10_readScript 79 = .ok (.aload_n 0, 1) := by decide +kernel
theorem dX10_readScript_80 : decode cX10_readScript 80 = .ok (.getfield 12, 3) := by decide +kernel
theorem dX10_readScript_83 : decode cX10_readScript 83 = .ok (.invokevirtual 62, 3) := by decide +kernel
theorem dX10_readScript_86 : decode cX10_readScript 86 = .ok (.aload_n 0, 1) := by decide +kernel
theorem dX10_readScript_87 : decode cX10_readScript 87 = .ok (.getfield 12, 3) := by decide +kernel
theorem dX10_readScript_90 : decode cX10_readScript 90 = .ok (.getfield 48, 3) := by decide +kernel
theorem dX10_readScript_93 : decode cX10_readScript 93 = .ok (.ireturn, 1) := by decide +kernel
theorem dX10_readAsker_0 : decode cX10_readAsker 0 = .ok (.aload_n 0, 1) := by decide +kernel
theorem dX10_readAsker_1 : decode cX10_readAsker 1 = .ok (.getfield 12, 3) := by decide +kernel
theorem dX10_readAsker_4 : decode cX10_readAsker 4 = .ok (.invokevirtual 18, 3) := by decide +kernel
theorem dX10_readAsker_7 : decode cX10_readAsker 7 = .ok (.aload_n 0, 1) := by decide +kernel
theorem dX10_readAsker_8 : decode cX10_readAsker 8 = .ok (.getfield 12, 3) := by decide +kernel
theorem dX10_readAsker_11 : decode cX10_readAsker 11 = .ok (.invokevirtual 65, 3) := by decide +kernel
theorem dX10_readAsker_14 : decode cX10_readAsker 14 = .ok (.lstore_n 1, 1) := by decide +kernel
theorem dX10_readAsker_15 : decode cX10_readAsker 15 = .ok (.aload_n 0, 1) := by decide +kernel
theorem dX10_readAsker_16 : decode cX10_readAsker 16 = .ok (.getfield 12, 3) := by decide +kernel
theorem dX10_readAsker_19 : decode cX10_readAsker 19 = .ok (.invokevirtual 30, 3) := by decide +kernel
theorem dX10_readAsker_22 : decode cX10_readAsker 22 = .ok (.ifCond .eq 20, 3) := by decide +kernel
theorem dX10_readAsker_25 : decode cX10_readAsker 25 = .ok (.aload_n 0, 1) := by decide +kernel
theorem dX10_readAsker_26 : decode cX10_readAsker 26 = .ok (.getfield 12, 3) := by decide +kernel
theorem dX10_readAsker_29 : decode cX10_readAsker 29 = .ok (.invokevirtual 34, 3) := by decide +kernel
theorem dX10_readAsker_32 : decode cX10_readAsker 32 = .ok (.ifCond .eq 10, 3) := by decide +kernel
theorem dX10_readAsker_35 : decode cX10_readAsker 35 = .ok (.aload_n 0, 1) := by decide +kernel
theorem dX10_readAsker_36 : decode cX10_readAsker 36 = .ok (.getfield 12, 3) := by decide +kernel
theorem dX10_readAsker_39 : decode cX10_readAsker 39 = .ok (.invokevirtual 62, 3) := by decide +kernel
theorem dX10_readAsker_42 : decode cX10_readAsker 42 = .ok (.aload_n 0, 1) := by decide +kernel
theorem dX10_readAsker_43 : decode cX10_readAsker 43 = .ok (.getfield 12, 3) := by decide +kernel
theorem dX10_readAsker_46 : decode cX10_readAsker 46 = .ok (.invokevirtual 30, 3) := by decide +kernel
theorem dX10_readAsker_49 : decode cX10_readAsker 49 = .ok (.ifCond .eq 7, 3) := by decide +kernel
theorem dX10_readAsker_52 : decode cX10_readAsker 52 = .ok (.lload_n 1, 1) := by decide +kernel
theorem dX10_readAsker_53 : decode cX10_readAsker 53 = .ok (.goto 4, 3) := by decide +kernel
theorem dX10_readAsker_56 : decode cX10_readAsker 56 = .ok (.lconst 0, 1) := by decide +kernel
theorem dX10_readAsker_57 : decode cX10_readAsker 57 = .ok (.lreturn, 1) := by decide +kernel
theorem dX10_readLine_0 : decode cX10_readLine 0 = .ok (.aload_n 0, 1) := by decide +kernel
theorem dX10_readLine_1 : decode cX10_readLine 1 = .ok (.getfield 12, 3) := by decide +kernel
theorem dX10_readLine_4 : decode cX10_readLine 4 = .ok (.invokevirtual 65, 3) := by decide +kernel
theorem dX10_readLine_7 : decode cX10_readLine 7 = .ok (.invokestatic 69, 3) := by decide +kernel
theorem dX10_readLine_10 : decode cX10_readLine 10 = .ok (.istore_n 2, 1) := by decide +kernel
theorem dX10_readLine_11 : decode cX10_readLine 11 = .ok (.iload_n 2, 1) := by decide +kernel
theorem dX10_readLine_12 : decode cX10_readLine 12 = .ok (.ifCond .ne 11, 3) := by decide +kernel
theorem dX10_readLine_15 : decode cX10_readLine 15 = .ok (.aload_n 0, 1) := by decide +kernel
theorem dX10_readLine_16 : decode cX10_readLine 16 = .ok (.aload_n 1, 1) := by decide +kernel
theorem dX10_readLine_17 : decode cX10_readLine 17 = .ok (.invokevirtual 73, 3) := by decide +kernel
theorem dX10_readLine_20 : decode cX10_readLine 20 = .ok (.goto 58, 3) := by decide +kernel
theorem dX10_readLine_23 : decode cX10_readLine 23 = .ok (.iload_n 2, 1) := by decide +kernel
theorem dX10_readLine_24 : decode cX10_readLine 24 = .ok (.iconst 1, 1) := by decide +kernel
theorem dX10_readLine_25 : decode cX10_readLine 25 = .ok (.if_icmp .ne 11, 3) := by decide +kernel
theorem dX10_readLine_28 : decode cX10_readLine 28 = .ok (.aload_n 0, 1) := by decide +kernel
theorem dX10_readLine_29 : decode cX10_readLine 29 = .ok (.aload_n 1, 1) := by decide +kernel
theorem dX10_readLine_30 : decode cX10_readLine 30 = .ok (.invokevirtual 76, 3) := by decide +kernel
theorem dX10_readLine_33 : decode cX10_readLine 33 = .ok (.goto 45, 3) := by decide +kernel
theorem dX10_readLine_36 : decode cX10_readLine 36 = .ok (.iload_n 2, 1) := by decide +kernel
theorem dX10_readLine_37 : decode cX10_readLine 37 = .ok (.iconst 2, 1) := by decide +kernel
theorem dX10_readLine_38 : decode cX10_readLine 38 = .ok (.if_icmp .ne 11, 3) := by decide +kernel
theorem dX10_readLine_41 : decode cX10_readLine 41 = .ok (.aload_n 0, 1) := by decide +kernel
theorem dX10_readLine_42 : decode cX10_readLine 42 = .ok (.aload_n 1, 1) := by decide +kernel
theorem dX10_readLine_43 : decode cX10_readLine 43 = .ok (.invokevirtual 79, 3) := by decide +kernel
theorem dX10_readLine_46 : decode cX10_readLine 46 = .ok (.goto 32, 3) := by decide +kernel
theorem dX10_readLine_49 : decode cX10_readLine 49 = .ok (.iload_n 2, 1) := by decide +kernel
theorem dX10_readLine_50 : decode cX10_readLine 50 = .ok (.iconst 3, 1) := by decide +kernel
theorem dX10_readLine_51 : decode cX10_readLine 51 = .ok (.if_icmp .lt 20, 3) := by decide +kernel
theorem dX10_readLine_54 : decode cX10_readLine 54 = .ok (.iload_n 2, 1) := by decide +kernel
theorem dX10_readLine_55 : decode cX10_readLine 55 = .ok (.bipush 9, 2) := by decide +kernel
theorem dX10_readLine_57 : decode cX10_readLine 57 = .ok (.if_icmp .ge 14, 3) := by decide +kernel
theorem dX10_readLine_60 : decode cX10_readLine 60 = .ok (.aload_n 0, 1) := by decide +kernel
theorem dX10_readLine_61 : decode cX10_readLine 61 = .ok (.aload_n 1, 1) := by decide +kernel
theorem dX10_readLine_62 : decode cX10_readLine 62 = .ok (.iload_n 2, 1) := by decide +kernel
theorem dX10_readLine_63 : decode cX10_readLine 63 = .ok (.iconst 3, 1) := by decide +kernel
theorem dX10_readLine_64 : decode cX10_readLine 64 = .ok (.isub, 1) := by decide +kernel
theorem dX10_readLine_65 : decode cX10_readLine 65 = .ok (.invokevirtual 82, 3) := by decide +kernel
theorem dX10_readLine_68 : decode cX10_readLine 68 = .ok (.goto 10, 3) := by decide +kernel
theorem dX10_readLine_71 : decode cX10_readLine 71 = .ok (.aload_n 0, 1) := by decide +kernel
theorem dX10_readLine_72 : decode cX10_readLine 72 = .ok (.getfield 12, 3) := by decide +kernel
theorem dX10_readLine_75 : decode cX10_readLine 75 = .ok (.invokevirtual 62, 3) := by decide +kernel
theorem dX10_readLine_78 : decode cX10_readLine 78 = .ok (.return_, 1) := by decide +kernel
theorem dX10_readCluster_0 : decode cX10_readCluster 0 = .ok (.aload_n 1, 1) := by decide +kernel
theorem dX10_readCluster_1 : decode cX10_readCluster 1 = .ok (.getfield 86, 3) := by decide +kernel
theorem dX10_readCluster_4 : decode cX10_readCluster 4 = .ok (.iconst 3, 1) := by decide +kernel
theorem dX10_readCluster_5 : decode cX10_readCluster 5 = .ok (.if_icmp .lt 11, 3) := by decide +kernel
theorem dX10_readCluster_8 : decode cX10_readCluster 8 = .ok (.aload_n 0, 1) := by decide +kernel
theorem dX10_readCluster_9 : decode cX10_readCluster 9 = .ok (.getfield 12, 3) := by decide +kernel
theorem dX10_readCluster_12 : decode cX10_readCluster 12 = .ok (.invokevirtual 62, 3) := by decide +kernel
theorem dX10_readCluster_15 : decode cX10_readCluster 15 = .ok (.return_, 1) := by decide +kernel
theorem dX10_readCluster_16 : decode cX10_readCluster 16 = .ok (.aload_n 0, 1) := by decide +kernel
theorem dX10_readCluster_17 : decode cX10_readCluster 17 = .ok (.aload_n 1, 1) := by decide +kernel
theorem dX10_readCluster_18 : decode cX10_readCluster 18 = .ok (.invokevirtual 89, 3) := by decide +kernel
theorem dX10_readCluster_21 : decode cX10_readCluster 21 = .ok (.lstore_n 2, 1) := by decide +kernel
theorem dX10_readCluster_22 : decode cX10_readCluster 22 = .ok (.aload_n 0, 1) := by decide +kernel
theorem dX10_readCluster_23 : decode cX10_readCluster 23 = .ok (.getfield 12, 3) := by decide +kernel
theorem dX10_readCluster_26 : decode cX10_readCluster 26 = .ok (.iconst 1, 1) := by decide +kernel
theorem dX10_readCluster_27 : decode cX10_readCluster 27 = .ok (.iconst 3, 1) := by decide +kernel
theorem dX10_readCluster_28 : decode cX10_readCluster 28 = .ok (.bipush 6, 2) := by decide +kernel
theorem dX10_readCluster_30 : decode cX10_readCluster 30 = .ok (.aload_n 1, 1) := by decide +kernel
theorem dX10_readCluster_31 : decode cX10_readCluster 31 = .ok (.getfield 93, 3) := by decide +kernel
theorem dX10_readCluster_34 : decode cX10_readCluster 34 = .ok (.isub, 1) := by decide +kernel
theorem dX10_readCluster_35 : decode cX10_readCluster 35 = .ok (.invokestatic 96, 3) := by decide +kernel
theorem dX10_readCluster_38 : decode cX10_readCluster 38 = .ok (.invokevirtual 102, 3) := by decide +kernel
theorem dX10_readCluster_41 : decode cX10_readCluster 41 = .ok (.istore 4, 2) := by decide +kernel
theorem dX10_readCluster_43 : decode cX10_readCluster 43 = .ok (.aload_n 0, 1) := by decide +kernel
theorem dX10_readCluster_44 : decode cX10_readCluster 44 = .ok (.getfield 12, 3) := by decide +kernel
theorem dX10_readCluster_47 : decode cX10_readCluster 47 = .ok (.iconst 0, 1) := by decide +kernel
theorem dX10_readCluster_48 : decode cX10_readCluster 48 = .ok (.bipush 99, 2) := by decide +kernel
theorem dX10_readCluster_50 : decode cX10_readCluster 50 = .ok (.invokevirtual 102, 3) := by decide +kernel
theorem dX10_readCluster_53 : decode cX10_readCluster 53 = .ok (.istore 5, 2) := by decide +kernel
theorem dX10_readCluster_55 : decode cX10_readCluster 55 = .ok (.aload_n 0, 1) := by decide +kernel
theorem dX10_readCluster_56 : decode cX10_readCluster 56 = .ok (.getfield 12, 3) := by decide +kernel
theorem dX10_readCluster_59 : decode cX10_readCluster 59 = .ok (.iconst 0, 1) := by decide +kernel
theorem dX10_readCluster_60 : decode cX10_readCluster 60 = .ok (.bipush 99, 2) := by decide +kernel
theorem dX10_readCluster_62 : decode cX10_readCluster 62 = .ok (.invokevirtual 102, 3) := by decide +kernel
theorem dX10_readCluster_65 : decode cX10_readCluster 65 = .ok (.istore 6, 2) := by decide +kernel
theorem dX10_readCluster_67 : decode cX10_readCluster 67 = .ok (.aload_n 0, 1) := by decide +kernel
theorem dX10_readCluster_68 : decode cX10_readCluster 68 = .ok (.getfield 12, 3) := by decide +kernel
theorem dX10_readCluster_71 : decode cX10_readCluster 71 = .ok (.invokevirtual 30, 3) := by decide +kernel
theorem dX10_readCluster_74 : decode cX10_readCluster 74 = .ok (.ifCond .eq 14, 3) := by decide +kernel
theorem dX10_readCluster_77 : decode cX10_readCluster 77 = .ok (.aload_n 1, 1) := by decide +kernel
theorem dX10_readCluster_78 : decode cX10_readCluster 78 = .ok (.lload_n 2, 1) := by decide +kernel
theorem dX10_readCluster_79 : decode cX10_readCluster 79 = .ok (.iload 4, 2) := by decide +kernel
theorem dX10_readCluster_81 : decode cX10_readCluster 81 = .ok (.iload 5, 2) := by decide +kernel
theorem dX10_readCluster_83 : decode cX10_readCluster 83 = .ok (.iload 6, 2) := by decide +kernel
theorem dX10_readCluster_85 : decode cX10_readCluster 85 = .ok (.invokevirtual 105, 3) := by decide +kernel
theorem dX10_readCluster_88 : decode cX10_readCluster 88 = .ok (.return_, 1) := by decide +kernel
theorem dX10_readPoint_0 : decode cX10_readPoint 0 = .ok (.aload_n 1, 1) := by decide +kernel
theorem dX10_readPoint_1 : decode cX10_readPoint 1 = .ok (.aload_n 0, 1) := by decide +kernel
theorem dX10_readPoint_2 : decode cX10_readPoint 2 = .ok (.getfield 12, 3) := by decide +kernel
theorem dX10_readPoint_5 : decode cX10_readPoint 5 = .ok (.invokevirtual 65, 3) := by decide +kernel
theorem dX10_readPoint_8 : decode cX10_readPoint 8 = .ok (.invokevirtual 109, 3) := by decide +kernel
theorem dX10_readPoint_11 : decode cX10_readPoint 11 = .ok (.istore_n 2, 1) := by decide +kernel
theorem dX10_readPoint_12 : decode cX10_readPoint 12 = .ok (.aload_n 1, 1) := by decide +kernel
theorem dX10_readPoint_13 : decode cX10_readPoint 13 = .ok (.iload_n 2, 1) := by decide +kernel
theorem dX10_readPoint_14 : decode cX10_readPoint 14 = .ok (.invokevirtual 112, 3) := by decide +kernel
theorem dX10_readPoint_17 : decode cX10_readPoint 17 = .ok (.ifCond .eq 13, 3) := by decide +kernel
theorem dX10_readPoint_20 : decode cX10_readPoint 20 = .ok (.aload_n 1, 1) := by decide +kernel
theorem dX10_readPoint_21 : decode cX10_readPoint 21 = .ok (.getfield 116, 3) := by decide +kernel
theorem dX10_readPoint_24 : decode cX10_readPoint 24 = .ok (.iload_n 2, 1) := by decide +kernel
theorem dX10_readPoint_25 : decode cX10_readPoint 25 = .ok (.iaload, 1) := by decide +kernel
theorem dX10_readPoint_26 : decode cX10_readPoint 26 = .ok (.iconst 5, 1) := by decide +kernel
theorem dX10_readPoint_27 : decode cX10_readPoint 27 = .ok (.if_icmp .lt 11, 3) := by decide +kernel
theorem dX10_readPoint_30 : decode cX10_readPoint 30 = .ok (.aload_n 0, 1) := by decide +kernel
theorem dX10_readPoint_31 : decode cX10_readPoint 31 = .ok (.getfield 12, 3) := by decide +kernel
theorem dX10_readPoint_34 : decode cX10_readPoint 34 = .ok (.invokevirtual 62, 3) := by decide +kernel
theorem dX10_readPoint_37 : decode cX10_readPoint 37 = .ok (.return_, 1) := by decide +kernel
theorem dX10_readPoint_38 : decode cX10_readPoint 38 = .ok (.aload_n 0, 1) := by decide +kernel
theorem dX10_readPoint_39 : decode cX10_readPoint 39 = .ok (.getfield 12, 3) := by decide +kernel
theorem dX10_readPoint_42 : decode cX10_readPoint 42 = .ok (.aload_n 1, 1) := by decide +kernel
theorem dX10_readPoint_43 : decode cX10_readPoint 43 = .ok (.iload_n 2, 1) := by decide +kernel
theorem dX10_readPoint_44 : decode cX10_readPoint 44 = .ok (.invokevirtual 120, 3) := by decide +kernel
theorem dX10_readPoint_47 : decode cX10_readPoint 47 = .ok (.iconst 1, 1) := by decide +kernel
theorem dX10_readPoint_48 : decode cX10_readPoint 48 = .ok (.iadd, 1) := by decide +kernel
theorem dX10_readPoint_49 : decode cX10_readPoint 49 = .ok (.bipush 99, 2) := by decide +kernel
theorem dX10_readPoint_51 : decode cX10_readPoint 51 = .ok (.invokevirtual 102, 3) := by decide +kernel
theorem dX10_readPoint_54 : decode cX10_readPoint 54 = .ok (.istore_n 3, 1) := by decide +kernel
theorem dX10_readPoint_55 : decode cX10_readPoint 55 = .ok (.aload_n 0, 1) := by decide +kernel
theorem dX10_readPoint_56 : decode cX10_readPoint 56 = .ok (.getfield 12, 3) := by decide +kernel
theorem dX10_readPoint_59 : decode cX10_readPoint 59 = .ok (.iconst 1, 1) := by decide +kernel
theorem dX10_readPoint_60 : decode cX10_readPoint 60 = .ok (.bipush 99, 2) := by decide +kernel
theorem dX10_readPoint_62 : decode cX10_readPoint 62 = .ok (.invokevirtual 102, 3) := by decide +kernel
theorem dX10_readPoint_65 : decode cX10_readPoint 65 = .ok (.istore 4, 2) := by decide +kernel
theorem dX10_readPoint_67 : decode cX10_readPoint 67 = .ok (.aload_n 0, 1) := by decide +kernel
theorem dX10_readPoint_68 : decode cX10_readPoint 68 = .ok (.getfield 12, 3) := by decide +kernel
theorem dX10_readPoint_71 : decode cX10_readPoint 71 = .ok (.invokevirtual 30, 3) := by decide +kernel
theorem dX10_readPoint_74 : decode cX10_readPoint 74 = .ok (.ifCond .eq 11, 3) := by decide +kernel
theorem dX10_readPoint_77 : decode cX10_readPoint 77 = .ok (.aload_n 1, 1) := by decide +kernel
theorem dX10_readPoint_78 : decode cX10_readPoint 78 = .ok (.iload_n 2, 1) := by decide +kernel
theorem dX10_readPoint_79 : decode cX10_readPoint 79 = .ok (.iload_n 3, 1) := by decide +kernel
theorem dX10_readPoint_80 : decode cX10_readPoint 80 = .ok (.iload 4, 2) := by decide +kernel
theorem dX10_readPoint_82 : decode cX10_readPoint 82 = .ok (.invokevirtual 124, 3) := by decide +kernel
theorem dX10_readPoint_85 : decode cX10_readPoint 85 = .ok (.return_, 1) := by decide +kernel
theorem dX10_readTask_0 : decode cX10_readTask 0 = .ok (.aload_n 1, 1) := by decide +kernel
theorem dX10_readTask_1 : decode cX10_readTask 1 = .ok (.getfield 128, 3) := by decide +kernel
theorem dX10_readTask_4 : decode cX10_readTask 4 = .ok (.iconst 4, 1) := by decide +kernel
theorem dX10_readTask_5 : decode cX10_readTask 5 = .ok (.if_icmp .lt 11, 3) := by decide +kernel
theorem dX10_readTask_8 : decode cX10_readTask 8 = .ok (.aload_n 0, 1) := by decide +kernel
theorem dX10_readTask_9 : decode cX10_readTask 9 = .ok (.getfield 12, 3) := by decide +kernel
theorem dX10_readTask_12 : decode cX10_readTask 12 = .ok (.invokevirtual 62, 3) := by decide +kernel
theorem dX10_readTask_15 : decode cX10_readTask 15 = .ok (.return_, 1) := by decide +kernel
theorem dX10_readTask_16 : decode cX10_readTask 16 = .ok (.aload_n 0, 1) := by decide +kernel
theorem dX10_readTask_17 : decode cX10_readTask 17 = .ok (.aload_n 1, 1) := by decide +kernel
theorem dX10_readTask_18 : decode cX10_readTask 18 = .ok (.invokevirtual 89, 3) := by decide +kernel
theorem dX10_readTask_21 : decode cX10_readTask 21 = .ok (.lstore_n 2, 1) := by decide +kernel
theorem dX10_readTask_22 : decode cX10_readTask 22 = .ok (.aload_n 0, 1) := by decide +kernel
theorem dX10_readTask_23 : decode cX10_readTask 23 = .ok (.getfield 12, 3) := by decide +kernel
theorem dX10_readTask_26 : decode cX10_readTask 26 = .ok (.iconst 1, 1) := by decide +kernel
theorem dX10_readTask_27 : decode cX10_readTask 27 = .ok (.sipush 999, 3) := by decide +kernel
theorem dX10_readTask_30 : decode cX10_readTask 30 = .ok (.invokevirtual 102, 3) := by decide +kernel
theorem dX10_readTask_33 : decode cX10_readTask 33 = .ok (.istore 4, 2) := by decide +kernel
theorem dX10_readTask_35 : decode cX10_readTask 35 = .ok (.aload_n 0, 1) := by decide +kernel
theorem dX10_readTask_36 : decode cX10_readTask 36 = .ok (.getfield 12, 3) := by decide +kernel
theorem dX10_readTask_39 : decode cX10_readTask 39 = .ok (.iconst 1, 1) := by decide +kernel
theorem dX10_readTask_40 : decode cX10_readTask 40 = .ok (.bipush 20, 2) := by decide +kernel
theorem dX10_readTask_42 : decode cX10_readTask 42 = .ok (.invokevirtual 102, 3) := by decide +kernel
theorem dX10_readTask_45 : decode cX10_readTask 45 = .ok (.istore 5, 2) := by decide +kernel
theorem dX10_readTask_47 : decode cX10_readTask 47 = .ok (.aload_n 0, 1) := by decide +kernel
theorem dX10_readTask_48 : decode cX10_readTask 48 = .ok (.getfield 12, 3) := by decide +kernel
theorem dX10_readTask_51 : decode cX10_readTask 51 = .ok (.invokevirtual 30, 3) := by decide +kernel
theorem dX10_readTask_54 : decode cX10_readTask 54 = .ok (.ifCond .eq 12, 3) := by decide +kernel
theorem dX10_readTask_57 : decode cX10_readTask 57 = .ok (.aload_n 1, 1) := by decide +kernel
theorem dX10_readTask_58 : decode cX10_readTask 58 = .ok (.lload_n 2, 1) := by decide +kernel
theorem dX10_readTask_59 : decode cX10_readTask 59 = .ok (.iload 4, 2) := by decide +kernel
theorem dX10_readTask_61 : decode cX10_readTask 61 = .ok (.iload 5, 2) := by decide +kernel
theorem dX10_readTask_63 : decode cX10_readTask 63 = .ok (.invokevirtual 131, 3) := by decide +kernel
theorem dX10_readTask_66 : decode cX10_readTask 66 = .ok (.return_, 1) := by decide +kernel
theorem dX10_readRule_0 : decode cX10_readRule 0 = .ok (.aload_n 1, 1) := by decide +kernel
theorem dX10_readRule_1 : decode cX10_readRule 1 = .ok (.getfield 135, 3) := by decide +kernel
theorem dX10_readRule_4 : decode cX10_readRule 4 = .ok (.iload_n 2, 1) := by decide +kernel
theorem dX10_readRule_5 : decode cX10_readRule 5 = .ok (.invokestatic 138, 3) := by decide +kernel
theorem dX10_readRule_8 : decode cX10_readRule 8 = .ok (.iconst 1, 1) := by decide +kernel
theorem dX10_readRule_9 : decode cX10_readRule 9 = .ok (.if_icmp .ne 11, 3) := by decide +kernel
theorem dX10_readRule_12 : decode cX10_readRule 12 = .ok (.aload_n 0, 1) := by decide +kernel
theorem dX10_readRule_13 : decode cX10_readRule 13 = .ok (.getfield 12, 3) := by decide +kernel
theorem dX10_readRule_16 : decode cX10_readRule 16 = .ok (.invokevirtual 62, 3) := by decide +kernel
theorem dX10_readRule_19 : decode cX10_readRule 19 = .ok (.return_, 1) := by decide +kernel
theorem dX10_readRule_20 : decode cX10_readRule 20 = .ok (.aload_n 0, 1) := by decide +kernel
theorem dX10_readRule_21 : decode cX10_readRule 21 = .ok (.getfield 12, 3) := by decide +kernel
theorem dX10_readRule_24 : decode cX10_readRule 24 = .ok (.getstatic 141, 3) := by decide +kernel
theorem dX10_readRule_27 : decode cX10_readRule 27 = .ok (.iload_n 2, 1) := by decide +kernel
theorem dX10_readRule_28 : decode cX10_readRule 28 = .ok (.iaload, 1) := by decide +kernel
theorem dX10_readRule_29 : decode cX10_readRule 29 = .ok (.getstatic 144, 3) := by decide +kernel
theorem dX10_readRule_32 : decode cX10_readRule 32 = .ok (.iload_n 2, 1) := by decide +kernel
theorem dX10_readRule_33 : decode cX10_readRule 33 = .ok (.iaload, 1) := by decide +kernel
theorem dX10_readRule_34 : decode cX10_readRule 34 = .ok (.invokevirtual 102, 3) := by decide +kernel
theorem dX10_readRule_37 : decode cX10_readRule 37 = .ok (.istore_n 3, 1) := by decide +kernel
theorem dX10_readRule_38 : decode cX10_readRule 38 = .ok (.aload_n 1, 1) := by decide +kernel
theorem dX10_readRule_39 : decode cX10_readRule 39 = .ok (.aload_n 1, 1) := by decide +kernel
theorem dX10_readRule_40 : decode cX10_readRule 40 = .ok (.getfield 135, 3) := by decide +kernel
theorem dX10_readRule_43 : decode cX10_readRule 43 = .ok (.iload_n 2, 1) := by decide +kernel
theorem dX10_readRule_44 : decode cX10_readRule 44 = .ok (.iconst 1, 1) := by decide +kernel
theorem dX10_readRule_45 : decode cX10_readRule 45 = .ok (.invokestatic 147, 3) := by decide +kernel
theorem dX10_readRule_48 : decode cX10_readRule 48 = .ok (.putfield 135, 3) := by decide +kernel
theorem dX10_readRule_51 : decode cX10_readRule 51 = .ok (.aload_n 1, 1) := by decide +kernel
theorem dX10_readRule_52 : decode cX10_readRule 52 = .ok (.getfield 151, 3) := by decide +kernel
theorem dX10_readRule_55 : decode cX10_readRule 55 = .ok (.iload_n 2, 1) := by decide +kernel
theorem dX10_readRule_56 : decode cX10_readRule 56 = .ok (.iload_n 3, 1) := by decide +kernel
theorem dX10_readRule_57 : decode cX10_readRule 57 = .ok (.iastore, 1) := by decide +kernel
theorem dX10_readRule_58 : decode cX10_readRule 58 = .ok (.return_, 1) := by decide +kernel
theorem dX10_readNewName_0 : decode cX10_readNewName 0 = .ok (.aload_n 0, 1) := by decide +kernel
theorem dX10_readNewName_1 : decode cX10_readNewName 1 = .ok (.getfield 12, 3) := by decide +kernel
theorem dX10_readNewName_4 : decode cX10_readNewName 4 = .ok (.invokevirtual 65, 3) := by decide +kernel
theorem dX10_readNewName_7 : decode cX10_readNewName 7 = .ok (.lstore_n 2, 1) := by decide +kernel
theorem dX10_readNewName_8 : decode cX10_readNewName 8 = .ok (.lload_n 2, 1) := by decide +kernel
theorem dX10_readNewName_9 : decode cX10_readNewName 9 = .ok (.invokestatic 69, 3) := by decide +kernel
theorem dX10_readNewName_12 : decode cX10_readNewName 12 = .ok (.iconst (-1), 1) := by decide +kernel
theorem dX10_readNewName_13 : decode cX10_readNewName 13 = .ok (.if_icmp .ne 11, 3) := by decide +kernel
theorem dX10_readNewName_16 : decode cX10_readNewName 16 = .ok (.aload_n 1, 1) := by decide +kernel
theorem dX10_readNewName_17 : decode cX10_readNewName 17 = .ok (.lload_n 2, 1) := by decide +kernel
theorem dX10_readNewName_18 : decode cX10_readNewName 18 = .ok (.invokevirtual 154, 3) := by decide +kernel
theorem dX10_readNewName_21 : decode cX10_readNewName 21 = .ok (.ifCond .eq 10, 3) := by decide +kernel
theorem dX10_readNewName_24 : decode cX10_readNewName 24 = .ok (.aload_n 0, 1) := by decide +kernel
theorem dX10_readNewName_25 : decode cX10_readNewName 25 = .ok (.getfield 12, 3) := by decide +kernel
theorem dX10_readNewName_28 : decode cX10_readNewName 28 = .ok (.invokevirtual 62, 3) := by decide +kernel
theorem dX10_readNewName_31 : decode cX10_readNewName 31 = .ok (.lload_n 2, 1) := by decide +kernel
theorem dX10_readNewName_32 : decode cX10_readNewName 32 = .ok (.lreturn, 1) := by decide +kernel
theorem dX10_readStep_0 : decode cX10_readStep 0 = .ok (.aload_n 0, 1) := by decide +kernel
theorem dX10_readStep_1 : decode cX10_readStep 1 = .ok (.getfield 12, 3) := by decide +kernel
theorem dX10_readStep_4 : decode cX10_readStep 4 = .ok (.invokevirtual 65, 3) := by decide +kernel
theorem dX10_readStep_7 : decode cX10_readStep 7 = .ok (.invokestatic 69, 3) := by decide +kernel
theorem dX10_readStep_10 : decode cX10_readStep 10 = .ok (.bipush 9, 2) := by decide +kernel
theorem dX10_readStep_12 : decode cX10_readStep 12 = .ok (.isub, 1) := by decide +kernel
theorem dX10_readStep_13 : decode cX10_readStep 13 = .ok (.istore_n 2, 1) := by decide +kernel
theorem dX10_readStep_14 : decode cX10_readStep 14 = .ok (.iload_n 2, 1) := by decide +kernel
theorem dX10_readStep_15 : decode cX10_readStep 15 = .ok (.ifCond .lt 9, 3) := by decide +kernel
theorem dX10_readStep_18 : decode cX10_readStep 18 = .ok (.iload_n 2, 1) := by decide +kernel
theorem dX10_readStep_19 : decode cX10_readStep 19 = .ok (.bipush 6, 2) := by decide +kernel
theorem dX10_readStep_21 : decode cX10_readStep 21 = .ok (.if_icmp .le 11, 3) := by decide +kernel
theorem dX10_readStep_24 : decode cX10_readStep 24 = .ok (.aload_n 0, 1) := by decide +kernel
theorem dX10_readStep_25 : decode cX10_readStep 25 = .ok (.getfield 12, 3) := by decide +kernel
theorem dX10_readStep_28 : decode cX10_readStep 28 = .ok (.invokevirtual 62, 3) := by decide +kernel
theorem dX10_readStep_31 : decode cX10_readStep 31 = .ok (.return_, 1) := by decide +kernel
theorem dX10_readStep_32 : decode cX10_readStep 32 = .ok (.aload_n 1, 1) := by decide +kernel
theorem dX10_readStep_33 : decode cX10_readStep 33 = .ok (.iload_n 2, 1) := by decide +kernel
theorem dX10_readStep_34 : decode cX10_readStep 34 = .ok (.iconst 0, 1) := by decide +kernel
theorem dX10_readStep_35 : decode cX10_readStep 35 = .ok (.iconst 0, 1) := by decide +kernel
theorem dX10_readStep_36 : decode cX10_readStep 36 = .ok (.iconst 0, 1) := by decide +kernel
theorem dX10_readStep_37 : decode cX10_readStep 37 = .ok (.iload_n 2, 1) := by decide +kernel
theorem dX10_readStep_38 : decode cX10_readStep 38 = .ok (.iconst 2, 1) := by decide +kernel
theorem dX10_readStep_39 : decode cX10_readStep 39 = .ok (.if_icmp .eq 8, 3) := by decide +kernel
theorem dX10_readStep_42 : decode cX10_readStep 42 = .ok (.iload_n 2, 1) := by decide +kernel
theorem dX10_readStep_43 : decode cX10_readStep 43 = .ok (.iconst 3, 1) := by decide +kernel
theorem dX10_readStep_44 : decode cX10_readStep 44 = .ok (.if_icmp .ne 13, 3) := by decide +kernel
theorem dX10_readStep_47 : decode cX10_readStep 47 = .ok (.aload_n 0, 1) := by decide +kernel
theorem dX10_readStep_48 : decode cX10_readStep 48 = .ok (.getfield 12, 3) := by decide +kernel
theorem dX10_readStep_51 : decode cX10_readStep 51 = .ok (.invokevirtual 65, 3) := by decide +kernel
theorem dX10_readStep_54 : decode cX10_readStep 54 = .ok (.goto 4, 3) := by decide +kernel
theorem dX10_readStep_57 : decode cX10_readStep 57 = .ok (.lconst 0, 1) := by decide +kernel
theorem dX10_readStep_58 : decode cX10_readStep 58 = .ok (.invokevirtual 158, 3) := by decide +kernel
theorem dX10_readStep_61 : decode cX10_readStep 61 = .ok (.aload_n 1, 1) := by decide +kernel
theorem dX10_readStep_62 : decode cX10_readStep 62 = .ok (.invokevirtual 164, 3) := by decide +kernel
theorem dX10_readStep_65 : decode cX10_readStep 65 = .ok (.istore_n 3, 1) := by decide +kernel
theorem dX10_readStep_66 : decode cX10_readStep 66 = .ok (.iconst 0, 1) := by decide +kernel
theorem dX10_readStep_67 : decode cX10_readStep 67 = .ok (.istore 4, 2) := by decide +kernel
theorem dX10_readStep_69 : decode cX10_readStep 69 = .ok (.iload 4, 2) := by decide +kernel
theorem dX10_readStep_71 : decode cX10_readStep 71 = .ok (.iload_n 3, 1) := by decide +kernel
theorem dX10_readStep_72 : decode cX10_readStep 72 = .ok (.if_icmp .ge 53, 3) := by decide +kernel
theorem dX10_readStep_75 : decode cX10_readStep 75 = .ok (.iload 4, 2) := by decide +kernel
theorem dX10_readStep_77 : decode cX10_readStep 77 = .ok (.aload_n 1, 1) := by decide +kernel
theorem dX10_readStep_78 : decode cX10_readStep 78 = .ok (.getfield 168, 3) := by decide +kernel
theorem dX10_readStep_81 : decode cX10_readStep 81 = .ok (.arraylength, 1) := by decide +kernel
theorem dX10_readStep_82 : decode cX10_readStep 82 = .ok (.if_icmp .ge 43, 3) := by decide +kernel
theorem dX10_readStep_85 : decode cX10_readStep 85 = .ok (.aload_n 1, 1) := by decide +kernel
theorem dX10_readStep_86 : decode cX10_readStep 86 = .ok (.getfield 168, 3) := by decide +kernel
theorem dX10_readStep_89 : decode cX10_readStep 89 = .ok (.iload 4, 2) := by decide +kernel
theorem dX10_readStep_91 : decode cX10_readStep 91 = .ok (.iload_n 2, 1) := by decide +kernel
theorem dX10_readStep_92 : decode cX10_readStep 92 = .ok (.ifCond .ne 16, 3) := by decide +kernel
theorem dX10_readStep_95 : decode cX10_readStep 95 = .ok (.aload_n 0, 1) := by decide +kernel
theorem dX10_readStep_96 : decode cX10_readStep 96 = .ok (.getfield 12, 3) := by decide +kernel
theorem dX10_readStep_99 : decode cX10_readStep 99 = .ok (.iconst 1, 1) := by decide +kernel
theorem dX10_readStep_100 : decode cX10_readStep 100 = .ok (.bipush 60, 2) := by decide +kernel
theorem dX10_readStep_102 : decode cX10_readStep 102 = .ok (.invokevirtual 102, 3) := by decide +kernel
theorem dX10_readStep_105 : decode cX10_readStep 105 = .ok (.goto 13, 3) := by decide +kernel
theorem dX10_readStep_108 : decode cX10_readStep 108 = .ok (.aload_n 0, 1) := by decide +kernel
theorem dX10_readStep_109 : decode cX10_readStep 109 = .ok (.getfield 12, 3) := by decide +kernel
theorem dX10_readStep_112 : decode cX10_readStep 112 = .ok (.iconst 0, 1) := by decide +kernel
theorem dX10_readStep_113 : decode cX10_readStep 113 = .ok (.bipush 9, 2) := by decide +kernel
theorem dX10_readStep_115 : decode cX10_readStep 115 = .ok (.invokevirtual 102, 3) := by decide +kernel
theorem dX10_readStep_118 : decode cX10_readStep 118 = .ok (.iastore, 1) := by decide +kernel
theorem dX10_readStep_119 : decode cX10_readStep 119 = .ok (.iinc 4 1, 3) := by decide +kernel
theorem dX10_readStep_122 : decode cX10_readStep 122 = .ok (.goto (-53), 3) := by decide +kernel
theorem dX10_readStep_125 : decode cX10_readStep 125 = .ok (.return_, 1) := by decide +kernel
theorem dX10_wordNumber_0 : decode cX10_wordNumber 0 = .ok (.iconst 0, 1) := by decide +kernel
theorem dX10_wordNumber_1 : decode cX10_wordNumber 1 = .ok (.istore_n 2, 1) := by decide +kernel
theorem dX10_wordNumber_2 : decode cX10_wordNumber 2 = .ok (.iload_n 2, 1) := by decide +kernel
theorem dX10_wordNumber_3 : decode cX10_wordNumber 3 = .ok (.bipush 16, 2) := by decide +kernel
theorem dX10_wordNumber_5 : decode cX10_wordNumber 5 = .ok (.if_icmp .ge 23, 3) := by decide +kernel
theorem dX10_wordNumber_8 : decode cX10_wordNumber 8 = .ok (.iload_n 2, 1) := by decide +kernel
theorem dX10_wordNumber_9 : decode cX10_wordNumber 9 = .ok (.invokestatic 171, 3) := by decide +kernel
theorem dX10_wordNumber_12 : decode cX10_wordNumber 12 = .ok (.invokestatic 175, 3) := by decide +kernel
theorem dX10_wordNumber_15 : decode cX10_wordNumber 15 = .ok (.lload_n 0, 1) := by decide +kernel
theorem dX10_wordNumber_16 : decode cX10_wordNumber 16 = .ok (.lcmp, 1) := by decide +kernel
theorem dX10_wordNumber_17 : decode cX10_wordNumber 17 = .ok (.ifCond .ne 5, 3) := by decide +kernel
theorem dX10_wordNumber_20 : decode cX10_wordNumber 20 = .ok (.iload_n 2, 1) := by decide +kernel
theorem dX10_wordNumber_21 : decode cX10_wordNumber 21 = .ok (.ireturn, 1) := by decide +kernel
theorem dX10_wordNumber_22 : decode cX10_wordNumber 22 = .ok (.iinc 2 1, 3) := by decide +kernel
theorem dX10_wordNumber_25 : decode cX10_wordNumber 25 = .ok (.goto (-23), 3) := by decide +kernel
theorem dX10_wordNumber_28 : decode cX10_wordNumber 28 = .ok (.iconst (-1), 1) := by decide +kernel
theorem dX10_wordNumber_29 : decode cX10_wordNumber 29 = .ok (.ireturn, 1) := by decide +kernel
theorem dX10_packed_0 : decode cX10_packed 0 = .ok (.lconst 0, 1) := by decide +kernel
theorem dX10_packed_1 : decode cX10_packed 1 = .ok (.lstore_n 1, 1) := by decide +kernel
theorem dX10_packed_2 : decode cX10_packed 2 = .ok (.iconst 0, 1) := by decide +kernel
theorem dX10_packed_3 : decode cX10_packed 3 = .ok (.istore_n 3, 1) := by decide +kernel
theorem dX10_packed_4 : decode cX10_packed 4 = .ok (.iload_n 3, 1) := by decide +kernel
theorem dX10_packed_5 : decode cX10_packed 5 = .ok (.aload_n 0, 1) := by decide +kernel
theorem dX10_packed_6 : decode cX10_packed 6 = .ok (.invokevirtual 179, 3) := by decide +kernel
theorem dX10_packed_9 : decode cX10_packed 9 = .ok (.if_icmp .ge 21, 3) := by decide +kernel
theorem dX10_packed_12 : decode cX10_packed 12 = .ok (.lload_n 1, 1) := by decide +kernel
theorem dX10_packed_13 : decode cX10_packed 13 = .ok (.bipush 8, 2) := by decide +kernel
theorem dX10_packed_15 : decode cX10_packed 15 = .ok (.lshl, 1) := by decide +kernel
theorem dX10_packed_16 : decode cX10_packed 16 = .ok (.aload_n 0, 1) := by decide +kernel
theorem dX10_packed_17 : decode cX10_packed 17 = .ok (.iload_n 3, 1) := by decide +kernel
theorem dX10_packed_18 : decode cX10_packed 18 = .ok (.invokevirtual 183, 3) := by decide +kernel
theorem dX10_packed_21 : decode cX10_packed 21 = .ok (.i2l, 1) := by decide +kernel
theorem dX10_packed_22 : decode cX10_packed 22 = .ok (.lor, 1) := by decide +kernel
theorem dX10_packed_23 : decode cX10_packed 23 = .ok (.lstore_n 1, 1) := by decide +kernel
theorem dX10_packed_24 : decode cX10_packed 24 = .ok (.iinc 3 1, 3) := by decide +kernel
theorem dX10_packed_27 : decode cX10_packed 27 = .ok (.goto (-23), 3) := by decide +kernel
theorem dX10_packed_30 : decode cX10_packed 30 = .ok (.lload_n 1, 1) := by decide +kernel
theorem dX10_packed_31 : decode cX10_packed 31 = .ok (.lreturn, 1) := by decide +kernel
theorem dX10_wordText_0 : decode cX10_wordText 0 = .ok (.iload_n 0, 1) := by decide +kernel
theorem dX10_wordText_1 : decode cX10_wordText 1 = .ok (.tableswitch 120 0 14 #[75, 78, 81, 84, 87, 90, 93, 96, 99, 102, 105, 108, 111, 114, 117], 75) := by decide +kernel
theorem dX10_wordText_76 : decode cX10_wordText 76 = .ok (.ldc 187, 2) := by decide +kernel
theorem dX10_wordText_78 : decode cX10_wordText 78 = .ok (.areturn, 1) := by decide +kernel
theorem dX10_wordText_79 : decode cX10_wordText 79 = .ok (.ldc 189, 2) := by decide +kernel
theorem dX10_wordText_81 : decode cX10_wordText 81 = .ok (.areturn, 1) := by decide +kernel
theorem dX10_wordText_82 : decode cX10_wordText 82 = .ok (.ldc 191, 2) := by decide +kernel
theorem dX10_wordText_84 : decode cX10_wordText 84 = .ok (.areturn, 1) := by decide +kernel
theorem dX10_wordText_85 : decode cX10_wordText 85 = .ok (.ldc 193, 2) := by decide +kernel
theorem dX10_wordText_87 : decode cX10_wordText 87 = .ok (.areturn, 1) := by decide +kernel
theorem dX10_wordText_88 : decode cX10_wordText 88 = .ok (.ldc 195, 2) := by decide +kernel
theorem dX10_wordText_90 : decode cX10_wordText 90 = .ok (.areturn, 1) := by decide +kernel
theorem dX10_wordText_91 : decode cX10_wordText 91 = .ok (.ldc 197, 2) := by decide +kernel
theorem dX10_wordText_93 : decode cX10_wordText 93 = .ok (.areturn, 1) := by decide +kernel
theorem dX10_wordText_94 : decode cX10_wordText 94 = .ok (.ldc 199, 2) := by decide +kernel
theorem dX10_wordText_96 : decode cX10_wordText 96 = .ok (.areturn, 1) := by decide +kernel
theorem dX10_wordText_97 : decode cX10_wordText 97 = .ok (.ldc 201, 2) := by decide +kernel
theorem dX10_wordText_99 : decode cX10_wordText 99 = .ok (.areturn, 1) := by decide +kernel
theorem dX10_wordText_100 : decode cX10_wordText 100 = .ok (.ldc 203, 2) := by decide +kernel
theorem dX10_wordText_102 : decode cX10_wordText 102 = .ok (.areturn, 1) := by decide +kernel
theorem dX10_wordText_103 : decode cX10_wordText 103 = .ok (.ldc 205, 2) := by decide +kernel
theorem dX10_wordText_105 : decode cX10_wordText 105 = .ok (.areturn, 1) := by decide +kernel
theorem dX10_wordText_106 : decode cX10_wordText 106 = .ok (.ldc 207, 2) := by decide +kernel
theorem dX10_wordText_108 : decode cX10_wordText 108 = .ok (.areturn, 1) := by decide +kernel
theorem dX10_wordText_109 : decode cX10_wordText 109 = .ok (.ldc 209, 2) := by decide +kernel
theorem dX10_wordText_111 : decode cX10_wordText 111 = .ok (.areturn, 1) := by decide +kernel
theorem dX10_wordText_112 : decode cX10_wordText 112 = .ok (.ldc 211, 2) := by decide +kernel
theorem dX10_wordText_114 : decode cX10_wordText 114 = .ok (.areturn, 1) := by decide +kernel
theorem dX10_wordText_115 : decode cX10_wordText 115 = .ok (.ldc 213, 2) := by decide +kernel
theorem dX10_wordText_117 : decode cX10_wordText 117 = .ok (.areturn, 1) := by decide +kernel
theorem dX10_wordText_118 : decode cX10_wordText 118 = .ok (.ldc 215, 2) := by decide +kernel
theorem dX10_wordText_120 : decode cX10_wordText 120 = .ok (.areturn, 1) := by decide +kernel
theorem dX10_wordText_121 : decode cX10_wordText 121 = .ok (.ldc 217, 2) := by decide +kernel
theorem dX10_wordText_123 : decode cX10_wordText 123 = .ok (.areturn, 1) := by decide +kernel
theorem dX11_init_0 : decode cX11_init 0 = .ok (.aload_n 0, 1) := by decide +kernel
theorem dX11_init_1 : decode cX11_init 1 = .ok (.invokespecial 3, 3) := by decide +kernel
theorem dX11_init_4 : decode cX11_init 4 = .ok (.aload_n 0, 1) := by decide +kernel
theorem dX11_init_5 : decode cX11_init 5 = .ok (.new 9, 3) := by decide +kernel
theorem dX11_init_8 : decode cX11_init 8 = .ok (.dup, 1) := by decide +kernel
theorem dX11_init_9 : decode cX11_init 9 = .ok (.invokespecial 11, 3) := by decide +kernel
theorem dX11_init_12 : decode cX11_init 12 = .ok (.putfield 12, 3) := by decide +kernel
theorem dX11_init_15 : decode cX11_init 15 = .ok (.aload_n 0, 1) := by decide +kernel
theorem dX11_init_16 : decode cX11_init 16 = .ok (.aload_n 0, 1) := by decide +kernel
theorem dX11_init_17 : decode cX11_init 17 = .ok (.getfield 12, 3) := by decide +kernel
theorem dX11_init_20 : decode cX11_init 20 = .ok (.getfield 16, 3) := by decide +kernel
theorem dX11_init_23 : decode cX11_init 23 = .ok (.putfield 20, 3) := by decide +kernel
theorem dX11_init_26 : decode cX11_init 26 = .ok (.aload_n 0, 1) := by decide +kernel
theorem dX11_init_27 : decode cX11_init 27 = .ok (.new 21, 3) := by decide +kernel
theorem dX11_init_30 : decode cX11_init 30 = .ok (.dup, 1) := by decide +kernel
theorem dX11_init_31 : decode cX11_init 31 = .ok (.invokespecial 23, 3) := by decide +kernel
theorem dX11_init_34 : decode cX11_init 34 = .ok (.putfield 24, 3) := by decide +kernel
theorem dX11_init_37 : decode cX11_init 37 = .ok (.aload_n 0, 1) := by decide +kernel
theorem dX11_init_38 : decode cX11_init 38 = .ok (.new 21, 3) := by decide +kernel
theorem dX11_init_41 : decode cX11_init 41 = .ok (.dup, 1) := by decide +kernel
theorem dX11_init_42 : decode cX11_init 42 = .ok (.invokespecial 23, 3) := by decide +kernel
theorem dX11_init_45 : decode cX11_init 45 = .ok (.putfield 28, 3) := by decide +kernel
theorem dX11_init_48 : decode cX11_init 48 = .ok (.aload_n 0, 1) := by decide +kernel
theorem dX11_init_49 : decode cX11_init 49 = .ok (.invokestatic 31, 3) := by decide +kernel
theorem dX11_init_52 : decode cX11_init 52 = .ok (.putfield 35, 3) := by decide +kernel
theorem dX11_init_55 : decode cX11_init 55 = .ok (.aload_n 0, 1) := by decide +kernel
theorem dX11_init_56 : decode cX11_init 56 = .ok (.new 39, 3) := by decide +kernel
theorem dX11_init_59 : decode cX11_init 59 = .ok (.dup, 1) := by decide +kernel
theorem dX11_init_60 : decode cX11_init 60 = .ok (.invokespecial 41, 3) := by decide +kernel
theorem dX11_init_63 : decode cX11_init 63 = .ok (.putfield 42, 3) := by decide +kernel
theorem dX11_init_66 : decode cX11_init 66 = .ok (.aload_n 0, 1) := by decide +kernel
theorem dX11_init_67 : decode cX11_init 67 = .ok (.new 39, 3) := by decide +kernel
theorem dX11_init_70 : decode cX11_init 70 = .ok (.dup, 1) := by decide +kernel
theorem dX11_init_71 : decode cX11_init 71 = .ok (.invokespecial 41, 3) := by decide +kernel
theorem dX11_init_74 : decode cX11_init 74 = .ok (.putfield 46, 3) := by decide +kernel
theorem dX11_init_77 : decode cX11_init 77 = .ok (.aload_n 0, 1) := by decide +kernel
theorem dX11_init_78 : decode cX11_init 78 = .ok (.new 39, 3) := by decide +kernel
theorem dX11_init_81 : decode cX11_init 81 = .ok (.dup, 1) := by decide +kernel
theorem dX11_init_82 : decode cX11_init 82 = .ok (.invokespecial 41, 3) := by decide +kernel
theorem dX11_init_85 : decode cX11_init 85 = .ok (.putfield 49, 3) := by decide +kernel
theorem dX11_init_88 : decode cX11_init 88 = .ok (.aload_n 0, 1) := by decide +kernel
theorem dX11_init_89 : decode cX11_init 89 = .ok (.new 52, 3) := by decide +kernel
theorem dX11_init_92 : decode cX11_init 92 = .ok (.dup, 1) := by decide +kernel
theorem dX11_init_93 : decode cX11_init 93 = .ok (.invokespecial 54, 3) := by decide +kernel
theorem dX11_init_96 : decode cX11_init 96 = .ok (.putfield 55, 3) := by decide +kernel
theorem dX11_init_99 : decode cX11_init 99 = .ok (.aload_n 0, 1) := by decide +kernel
theorem dX11_init_100 : decode cX11_init 100 = .ok (.new 52, 3) := by decide +kernel
theorem dX11_init_103 : decode cX11_init 103 = .ok (.dup, 1) := by decide +kernel
theorem dX11_init_104 : decode cX11_init 104 = .ok (.invokespecial 54, 3) := by decide +kernel
theorem dX11_init_107 : decode cX11_init 107 = .ok (.putfield 59, 3) := by decide +kernel
theorem dX11_init_110 : decode cX11_init 110 = .ok (.aload_n 0, 1) := by decide +kernel
theorem dX11_init_111 : decode cX11_init 111 = .ok (.new 62, 3) := by decide +kernel
theorem dX11_init_114 : decode cX11_init 114 = .ok (.dup, 1) := by decide +kernel
theorem dX11_init_115 : decode cX11_init 115 = .ok (.invokespecial 64, 3) := by decide +kernel
theorem dX11_init_118 : decode cX11_init 118 = .ok (.putfield 65, 3) := by decide +kernel
theorem dX11_init_121 : decode cX11_init 121 = .ok (.aload_n 0, 1) := by decide +kernel
theorem dX11_init_122 : decode cX11_init 122 = .ok (.new 69, 3) := by decide +kernel
theorem dX11_init_125 : decode cX11_init 125 = .ok (.dup, 1) := by decide +kernel
theorem dX11_init_126 : decode cX11_init 126 = .ok (.invokespecial 71, 3) := by decide +kernel
theorem dX11_init_129 : decode cX11_init 129 = .ok (.putfield 72, 3) := by decide +kernel
theorem dX11_init_132 : decode cX11_init 132 = .ok (.aload_n 0, 1) := by decide +kernel
theorem dX11_init_133 : decode cX11_init 133 = .ok (.aload_n 0, 1) := by decide +kernel
theorem dX11_init_134 : decode cX11_init 134 = .ok (.getfield 72, 3) := by decide +kernel
theorem dX11_init_137 : decode cX11_init 137 = .ok (.getfield 76, 3) := by decide +kernel
theorem dX11_init_140 : decode cX11_init 140 = .ok (.putfield 80, 3) := by decide +kernel
theorem dX11_init_143 : decode cX11_init 143 = .ok (.aload_n 0, 1) := by decide +kernel
theorem dX11_init_144 : decode cX11_init 144 = .ok (.aload_n 0, 1) := by decide +kernel
theorem dX11_init_145 : decode cX11_init 145 = .ok (.getfield 72, 3) := by decide +kernel
theorem dX11_init_148 : decode cX11_init 148 = .ok (.getfield 81, 3) := by decide +kernel
theorem dX11_init_151 : decode cX11_init 151 = .ok (.putfield 85, 3) := by decide +kernel
theorem dX11_init_154 : decode cX11_init 154 = .ok (.aload_n 0, 1) := by decide +kernel
theorem dX11_init_155 : decode cX11_init 155 = .ok (.new 86, 3) := by decide +kernel
theorem dX11_init_158 : decode cX11_init 158 = .ok (.dup, 1) := by decide +kernel
theorem dX11_init_159 : decode cX11_init 159 = .ok (.invokespecial 88, 3) := by decide +kernel
theorem dX11_init_162 : decode cX11_init 162 = .ok (.putfield 89, 3) := by decide +kernel
theorem dX11_init_165 : decode cX11_init 165 = .ok (.aload_n 0, 1) := by decide +kernel
theorem dX11_init_166 : decode cX11_init 166 = .ok (.iconst 4, 1) := by decide +kernel
theorem dX11_init_167 : decode cX11_init 167 = .ok (.newarray .int, 2) := by decide +kernel
theorem dX11_init_169 : decode cX11_init 169 = .ok (.putfield 93, 3) := by decide +kernel
theorem dX11_init_172 : decode cX11_init 172 = .ok (.return_, 1) := by decide +kernel
theorem dX11_feed_0 : decode cX11_feed 0 = .ok (.iload_n 1, 1) := by decide +kernel
theorem dX11_feed_1 : decode cX11_feed 1 = .ok (.invokestatic 97, 3) := by decide +kernel
theorem dX11_feed_4 : decode cX11_feed 4 = .ok (.iload_n 2, 1) := by decide +kernel
theorem dX11_feed_5 : decode cX11_feed 5 = .ok (.invokestatic 97, 3) := by decide +kernel
theorem dX11_feed_8 : decode cX11_feed 8 = .ok (.iadd, 1) := by decide +kernel
theorem dX11_feed_9 : decode cX11_feed 9 = .ok (.iload_n 3, 1) := by decide +kernel
theorem dX11_feed_10 : decode cX11_feed 10 = .ok (.invokestatic 97, 3) := by decide +kernel
theorem dX11_feed_13 : decode cX11_feed 13 = .ok (.iadd, 1) := by decide +kernel
theorem dX11_feed_14 : decode cX11_feed 14 = .ok (.iload 4, 2) := by decide +kernel
theorem dX11_feed_16 : decode cX11_feed 16 = .ok (.invokestatic 97, 3) := by decide +kernel
theorem dX11_feed_19 : decode cX11_feed 19 = .ok (.iadd, 1) := by decide +kernel
theorem dX11_feed_20 : decode cX11_feed 20 = .ok (.iload 5, 2) := by decide +kernel
theorem dX11_feed_22 : decode cX11_feed 22 = .ok (.invokestatic 97, 3) := by decide +kernel
theorem dX11_feed_25 : decode cX11_feed 25 = .ok (.iadd, 1) := by decide +kernel
theorem dX11_feed_26 : decode cX11_feed 26 = .ok (.istore 6, 2) := by decide +kernel
theorem dX11_feed_28 : decode cX11_feed 28 = .ok (.aload_n 0, 1) := by decide +kernel
theorem dX11_feed_29 : decode cX11_feed 29 = .ok (.getfield 20, 3) := by decide +kernel
theorem dX11_feed_32 : decode cX11_feed 32 = .ok (.getfield 103, 3) := by decide +kernel
theorem dX11_feed_35 : decode cX11_feed 35 = .ok (.iload 6, 2) := by decide +kernel
theorem dX11_feed_37 : decode cX11_feed 37 = .ok (.iadd, 1) := by decide +kernel
theorem dX11_feed_38 : decode cX11_feed 38 = .ok (.sipush 320, 3) := by decide +kernel
theorem dX11_feed_41 : decode cX11_feed 41 = .ok (.if_icmp .le 5, 3) := by decide +kernel
theorem dX11_feed_44 : decode cX11_feed 44 = .ok (.iconst (-1), 1) := by decide +kernel
theorem dX11_feed_45 : decode cX11_feed 45 = .ok (.ireturn, 1) := by decide +kernel
theorem dX11_feed_46 : decode cX11_feed 46 = .ok (.aload_n 0, 1) := by decide +kernel
theorem dX11_feed_47 : decode cX11_feed 47 = .ok (.getfield 20, 3) := by decide +kernel
theorem dX11_feed_50 : decode cX11_feed 50 = .ok (.iload_n 1, 1) := by decide +kernel
theorem dX11_feed_51 : decode cX11_feed 51 = .ok (.invokevirtual 107, 3) := by decide +kernel
theorem dX11_feed_54 : decode cX11_feed 54 = .ok (.aload_n 0, 1) := by decide +kernel
theorem dX11_feed_55 : decode cX11_feed 55 = .ok (.getfield 20, 3) := by decide +kernel
theorem dX11_feed_58 : decode cX11_feed 58 = .ok (.iload_n 2, 1) := by decide +kernel
theorem dX11_feed_59 : decode cX11_feed 59 = .ok (.invokevirtual 107, 3) := by decide +kernel
theorem dX11_feed_62 : decode cX11_feed 62 = .ok (.aload_n 0, 1) := by decide +kernel
theorem dX11_feed_63 : decode cX11_feed 63 = .ok (.getfield 20, 3) := by decide +kernel
theorem dX11_feed_66 : decode cX11_feed 66 = .ok (.iload_n 3, 1) := by decide +kernel
theorem dX11_feed_67 : decode cX11_feed 67 = .ok (.invokevirtual 107, 3) := by decide +kernel
theorem dX11_feed_70 : decode cX11_feed 70 = .ok (.aload_n 0, 1) := by decide +kernel
theorem dX11_feed_71 : decode cX11_feed 71 = .ok (.getfield 20, 3) := by decide +kernel
theorem dX11_feed_74 : decode cX11_feed 74 = .ok (.iload 4, 2) := by decide +kernel
theorem dX11_feed_76 : decode cX11_feed 76 = .ok (.invokevirtual 107, 3) := by decide +kernel
theorem dX11_feed_79 : decode cX11_feed 79 = .ok (.aload_n 0, 1) := by decide +kernel
theorem dX11_feed_80 : decode cX11_feed 80 = .ok (.getfield 20, 3) := by decide +kernel
theorem dX11_feed_83 : decode cX11_feed 83 = .ok (.iload 5, 2) := by decide +kernel
theorem dX11_feed_85 : decode cX11_feed 85 = .ok (.invokevirtual 107, 3) := by decide +kernel
theorem dX11_feed_88 : decode cX11_feed 88 = .ok (.aload_n 0, 1) := by decide +kernel
theorem dX11_feed_89 : decode cX11_feed 89 = .ok (.getfield 20, 3) := by decide +kernel
theorem dX11_feed_92 : decode cX11_feed 92 = .ok (.getfield 103, 3) := by decide +kernel
theorem dX11_feed_95 : decode cX11_feed 95 = .ok (.ireturn, 1) := by decide +kernel
theorem dX11_end_0 : decode cX11_end 0 = .ok (.iload_n 1, 1) := by decide +kernel
theorem dX11_end_1 : decode cX11_end 1 = .ok (.ifCond .lt 14, 3) := by decide +kernel
theorem dX11_end_4 : decode cX11_end 4 = .ok (.iload_n 1, 1) := by decide +kernel
theorem dX11_end_5 : decode cX11_end 5 = .ok (.aload_n 0, 1) := by decide +kernel
theorem dX11_end_6 : decode cX11_end 6 = .ok (.getfield 20, 3) := by decide +kernel
theorem dX11_end_9 : decode cX11_end 9 = .ok (.getfield 103, 3) := by decide +kernel
theorem dX11_end_12 : decode cX11_end 12 = .ok (.if_icmp .le 5, 3) := by decide +kernel
theorem dX11_end_15 : decode cX11_end 15 = .ok (.iconst 0, 1) := by decide +kernel
theorem dX11_end_16 : decode cX11_end 16 = .ok (.ireturn, 1) := by decide +kernel
theorem dX11_end_17 : decode cX11_end 17 = .ok (.aload_n 0, 1) := by decide +kernel
theorem dX11_end_18 : decode cX11_end 18 = .ok (.getfield 20, 3) := by decide +kernel
theorem dX11_end_21 : decode cX11_end 21 = .ok (.iload_n 1, 1) := by decide +kernel
theorem dX11_end_22 : decode cX11_end 22 = .ok (.putfield 103, 3) := by decide +kernel
theorem dX11_end_25 : decode cX11_end 25 = .ok (.iconst 1, 1) := by decide +kernel
theorem dX11_end_26 : decode cX11_end 26 = .ok (.ireturn, 1) := by decide +kernel
theorem dX11_fault_0 : decode cX11_fault 0 = .ok (.iload_n 1, 1) := by decide +kernel
theorem dX11_fault_1 : decode cX11_fault 1 = .ok (.tableswitch 67 0 2 #[27, 39, 51], 27) := by decide +kernel
theorem dX11_fault_28 : decode cX11_fault 28 = .ok (.aload_n 0, 1) := by decide +kernel
theorem dX11_fault_29 : decode cX11_fault 29 = .ok (.getfield 12, 3) := by decide +kernel
theorem dX11_fault_32 : decode cX11_fault 32 = .ok (.aload_n 0, 1) := by decide +kernel
theorem dX11_fault_33 : decode cX11_fault 33 = .ok (.getfield 28, 3) := by decide +kernel
theorem dX11_fault_36 : decode cX11_fault 36 = .ok (.invokevirtual 111, 3) := by decide +kernel
theorem dX11_fault_39 : decode cX11_fault 39 = .ok (.ireturn, 1) := by decide +kernel
theorem dX11_fault_40 : decode cX11_fault 40 = .ok (.aload_n 0, 1) := by decide +kernel
theorem dX11_fault_41 : decode cX11_fault 41 = .ok (.getfield 12, 3) := by decide +kernel
theorem dX11_fault_44 : decode cX11_fault 44 = .ok (.aload_n 0, 1) := by decide +kernel
theorem dX11_fault_45 : decode cX11_fault 45 = .ok (.invokevirtual 115, 3) := by decide +kernel
theorem dX11_fault_48 : decode cX11_fault 48 = .ok (.invokevirtual 119, 3) := by decide +kernel
theorem dX11_fault_51 : decode cX11_fault 51 = .ok (.ireturn, 1) := by decide +kernel
theorem dX11_fault_52 : decode cX11_fault 52 = .ok (.aload_n 0, 1) := by decide +kernel
theorem dX11_fault_53 : decode cX11_fault 53 = .ok (.getfield 12, 3) := by decide +kernel
theorem dX11_fault_56 : decode cX11_fault 56 = .ok (.invokevirtual 123, 3) := by decide +kernel
theorem dX11_fault_59 : decode cX11_fault 59 = .ok (.pop2, 1) := by decide +kernel
theorem dX11_fault_60 : decode cX11_fault 60 = .ok (.aload_n 0, 1) := by decide +kernel
theorem dX11_fault_61 : decode cX11_fault 61 = .ok (.getfield 20, 3) := by decide +kernel
theorem dX11_fault_64 : decode cX11_fault 64 = .ok (.getfield 127, 3) := by decide +kernel
theorem dX11_fault_67 : decode cX11_fault 67 = .ok (.ireturn, 1) := by decide +kernel
theorem dX11_fault_68 : decode cX11_fault 68 = .ok (.bipush (-2), 2) := by decide +kernel
theorem dX11_fault_70 : decode cX11_fault 70 = .ok (.ireturn, 1) := by decide +kernel
theorem dX11_text_0 : decode cX11_text 0 = .ok (.iload_n 1, 1) := by decide +kernel
theorem dX11_text_1 : decode cX11_text 1 = .ok (.ifCond .ne 27, 3) := by decide +kernel
theorem dX11_text_4 : decode cX11_text 4 = .ok (.aload_n 0, 1) := by decide +kernel
theorem dX11_text_5 : decode cX11_text 5 = .ok (.getfield 12, 3) := by decide +kernel
theorem dX11_text_8 : decode cX11_text 8 = .ok (.aload_n 0, 1) := by decide +kernel
theorem dX11_text_9 : decode cX11_text 9 = .ok (.getfield 28, 3) := by decide +kernel
theorem dX11_text_12 : decode cX11_text 12 = .ok (.invokevirtual 111, 3) := by decide +kernel
theorem dX11_text_15 : decode cX11_text 15 = .ok (.iconst (-1), 1) := by decide +kernel
theorem dX11_text_16 : decode cX11_text 16 = .ok (.if_icmp .ne 10, 3) := by decide +kernel
theorem dX11_text_19 : decode cX11_text 19 = .ok (.aload_n 0, 1) := by decide +kernel
theorem dX11_text_20 : decode cX11_text 20 = .ok (.invokevirtual 130, 3) := by decide +kernel
theorem dX11_text_23 : decode cX11_text 23 = .ok (.goto 4, 3) := by decide +kernel
theorem dX11_text_26 : decode cX11_text 26 = .ok (.iconst (-1), 1) := by decide +kernel
theorem dX11_text_27 : decode cX11_text 27 = .ok (.ireturn, 1) := by decide +kernel
theorem dX11_text_28 : decode cX11_text 28 = .ok (.iload_n 1, 1) := by decide +kernel
theorem dX11_text_29 : decode cX11_text 29 = .ok (.iconst 1, 1) := by decide +kernel
theorem dX11_text_30 : decode cX11_text 30 = .ok (.if_icmp .ne 11, 3) := by decide +kernel
theorem dX11_text_33 : decode cX11_text 33 = .ok (.aload_n 0, 1) := by decide +kernel
theorem dX11_text_34 : decode cX11_text 34 = .ok (.getfield 134, 3) := by decide +kernel
theorem dX11_text_37 : decode cX11_text 37 = .ok (.iconst 4, 1) := by decide +kernel
theorem dX11_text_38 : decode cX11_text 38 = .ok (.if_icmp .lt 5, 3) := by decide +kernel
theorem dX11_text_41 : decode cX11_text 41 = .ok (.iconst (-1), 1) := by decide +kernel
theorem dX11_text_42 : decode cX11_text 42 = .ok (.ireturn, 1) := by decide +kernel
theorem dX11_text_43 : decode cX11_text 43 = .ok (.aload_n 0, 1) := by decide +kernel
theorem dX11_text_44 : decode cX11_text 44 = .ok (.getfield 12, 3) := by decide +kernel
theorem dX11_text_47 : decode cX11_text 47 = .ok (.aload_n 0, 1) := by decide +kernel
theorem dX11_text_48 : decode cX11_text 48 = .ok (.invokevirtual 115, 3) := by decide +kernel
theorem dX11_text_51 : decode cX11_text 51 = .ok (.invokevirtual 119, 3) := by decide +kernel
theorem dX11_text_54 : decode cX11_text 54 = .ok (.iconst (-1), 1) := by decide +kernel
theorem dX11_text_55 : decode cX11_text 55 = .ok (.if_icmp .ne 10, 3) := by decide +kernel
theorem dX11_text_58 : decode cX11_text 58 = .ok (.aload_n 0, 1) := by decide +kernel
theorem dX11_text_59 : decode cX11_text 59 = .ok (.invokevirtual 137, 3) := by decide +kernel
theorem dX11_text_62 : decode cX11_text 62 = .ok (.goto 4, 3) := by decide +kernel
theorem dX11_text_65 : decode cX11_text 65 = .ok (.iconst (-1), 1) := by decide +kernel
theorem dX11_text_66 : decode cX11_text 66 = .ok (.ireturn, 1) := by decide +kernel
theorem dX11_rule_0 : decode cX11_rule 0 = .ok (.aload_n 0, 1) := by decide +kernel
theorem dX11_rule_1 : decode cX11_rule 1 = .ok (.getfield 24, 3) := by decide +kernel
theorem dX11_rule_4 : decode cX11_rule 4 = .ok (.invokevirtual 140, 3) := by decide +kernel
theorem dX11_rule_7 : decode cX11_rule 7 = .ok (.ifCond .eq 13, 3) := by decide +kernel
theorem dX11_rule_10 : decode cX11_rule 10 = .ok (.iload_n 1, 1) := by decide +kernel
theorem dX11_rule_11 : decode cX11_rule 11 = .ok (.ifCond .lt 9, 3) := by decide +kernel
theorem dX11_rule_14 : decode cX11_rule 14 = .ok (.iload_n 1, 1) := by decide +kernel
theorem dX11_rule_15 : decode cX11_rule 15 = .ok (.bipush 7, 2) := by decide +kernel
theorem dX11_rule_17 : decode cX11_rule 17 = .ok (.if_icmp .le 5, 3) := by decide +kernel
theorem dX11_rule_20 : decode cX11_rule 20 = .ok (.iconst (-1), 1) := by decide +kernel
theorem dX11_rule_21 : decode cX11_rule 21 = .ok (.ireturn, 1) := by decide +kernel
theorem dX11_rule_22 : decode cX11_rule 22 = .ok (.iload_n 1, 1) := by decide +kernel
theorem dX11_rule_23 : decode cX11_rule 23 = .ok (.bipush 6, 2) := by decide +kernel
theorem dX11_rule_25 : decode cX11_rule 25 = .ok (.if_icmp .ge 13, 3) := by decide +kernel
theorem dX11_rule_28 : decode cX11_rule 28 = .ok (.aload_n 0, 1) := by decide +kernel
theorem dX11_rule_29 : decode cX11_rule 29 = .ok (.getfield 24, 3) := by decide +kernel
theorem dX11_rule_32 : decode cX11_rule 32 = .ok (.getfield 144, 3) := by decide +kernel
theorem dX11_rule_35 : decode cX11_rule 35 = .ok (.iload_n 1, 1) := by decide +kernel
theorem dX11_rule_36 : decode cX11_rule 36 = .ok (.iaload, 1) := by decide +kernel
theorem dX11_rule_37 : decode cX11_rule 37 = .ok (.ireturn, 1) := by decide +kernel
theorem dX11_rule_38 : decode cX11_rule 38 = .ok (.iload_n 1, 1) := by decide +kernel
theorem dX11_rule_39 : decode cX11_rule 39 = .ok (.bipush 6, 2) := by decide +kernel
theorem dX11_rule_41 : decode cX11_rule 41 = .ok (.if_icmp .ne 13, 3) := by decide +kernel
theorem dX11_rule_44 : decode cX11_rule 44 = .ok (.aload_n 0, 1) := by decide +kernel
theorem dX11_rule_45 : decode cX11_rule 45 = .ok (.getfield 24, 3) := by decide +kernel
theorem dX11_rule_48 : decode cX11_rule 48 = .ok (.getfield 147, 3) := by decide +kernel
theorem dX11_rule_51 : decode cX11_rule 51 = .ok (.goto 10, 3) := by decide +kernel
theorem dX11_rule_54 : decode cX11_rule 54 = .ok (.aload_n 0, 1) := by decide +kernel
theorem dX11_rule_55 : decode cX11_rule 55 = .ok (.getfield 24, 3) := by decide +kernel
theorem dX11_rule_58 : decode cX11_rule 58 = .ok (.getfield 150, 3) := by decide +kernel
theorem dX11_rule_61 : decode cX11_rule 61 = .ok (.ireturn, 1) := by decide +kernel
theorem dX11_cluster_0 : decode cX11_cluster 0 = .ok (.aload_n 0, 1) := by decide +kernel
theorem dX11_cluster_1 : decode cX11_cluster 1 = .ok (.getfield 24, 3) := by decide +kernel
theorem dX11_cluster_4 : decode cX11_cluster 4 = .ok (.iload_n 1, 1) := by decide +kernel
theorem dX11_cluster_5 : decode cX11_cluster 5 = .ok (.invokevirtual 153, 3) := by decide +kernel
theorem dX11_cluster_8 : decode cX11_cluster 8 = .ok (.ifCond .eq 13, 3) := by decide +kernel
theorem dX11_cluster_11 : decode cX11_cluster 11 = .ok (.iload_n 2, 1) := by decide +kernel
theorem dX11_cluster_12 : decode cX11_cluster 12 = .ok (.ifCond .lt 9, 3) := by decide +kernel
theorem dX11_cluster_15 : decode cX11_cluster 15 = .ok (.iload_n 2, 1) := by decide +kernel
theorem dX11_cluster_16 : decode cX11_cluster 16 = .ok (.bipush 10, 2) := by decide +kernel
theorem dX11_cluster_18 : decode cX11_cluster 18 = .ok (.if_icmp .le 11, 3) := by decide +kernel
theorem dX11_cluster_21 : decode cX11_cluster 21 = .ok (.new 157, 3) := by decide +kernel
theorem dX11_cluster_24 : decode cX11_cluster 24 = .ok (.dup, 1) := by decide +kernel
theorem dX11_cluster_25 : decode cX11_cluster 25 = .ok (.invokespecial 159, 3) := by decide +kernel
theorem dX11_cluster_28 : decode cX11_cluster 28 = .ok (.athrow, 1) := by decide +kernel
theorem dX11_cluster_29 : decode cX11_cluster 29 = .ok (.iload_n 2, 1) := by decide +kernel
theorem dX11_cluster_30 : decode cX11_cluster 30 = .ok (.iconst 3, 1) := by decide +kernel
theorem dX11_cluster_31 : decode cX11_cluster 31 = .ok (.if_icmp .gt 15, 3) := by decide +kernel
theorem dX11_cluster_34 : decode cX11_cluster 34 = .ok (.aload_n 0, 1) := by decide +kernel
theorem dX11_cluster_35 : decode cX11_cluster 35 = .ok (.getfield 24, 3) := by decide +kernel
theorem dX11_cluster_38 : decode cX11_cluster 38 = .ok (.iload_n 1, 1) := by decide +kernel
theorem dX11_cluster_39 : decode cX11_cluster 39 = .ok (.iload_n 2, 1) := by decide +kernel
theorem dX11_cluster_40 : decode cX11_cluster 40 = .ok (.invokevirtual 160, 3) := by decide +kernel
theorem dX11_cluster_43 : decode cX11_cluster 43 = .ok (.goto 9, 3) := by decide +kernel
theorem dX11_cluster_46 : decode cX11_cluster 46 = .ok (.aload_n 0, 1) := by decide +kernel
theorem dX11_cluster_47 : decode cX11_cluster 47 = .ok (.iload_n 1, 1) := by decide +kernel
theorem dX11_cluster_48 : decode cX11_cluster 48 = .ok (.iload_n 2, 1) := by decide +kernel
theorem dX11_cluster_49 : decode cX11_cluster 49 = .ok (.invokevirtual 164, 3) := by decide +kernel
theorem dX11_cluster_52 : decode cX11_cluster 52 = .ok (.ireturn, 1) := by decide +kernel
theorem dX11_point_0 : decode cX11_point 0 = .ok (.aload_n 0, 1) := by decide +kernel
theorem dX11_point_1 : decode cX11_point 1 = .ok (.getfield 24, 3) := by decide +kernel
theorem dX11_point_4 : decode cX11_point 4 = .ok (.iload_n 1, 1) := by decide +kernel
theorem dX11_point_5 : decode cX11_point 5 = .ok (.iload_n 2, 1) := by decide +kernel
theorem dX11_point_6 : decode cX11_point 6 = .ok (.invokevirtual 167, 3) := by decide +kernel
theorem dX11_point_9 : decode cX11_point 9 = .ok (.ifCond .eq 12, 3) := by decide +kernel
theorem dX11_point_12 : decode cX11_point 12 = .ok (.iload_n 3, 1) := by decide +kernel
theorem dX11_point_13 : decode cX11_point 13 = .ok (.ifCond .lt 8, 3) := by decide +kernel
theorem dX11_point_16 : decode cX11_point 16 = .ok (.iload_n 3, 1) := by decide +kernel
theorem dX11_point_17 : decode cX11_point 17 = .ok (.iconst 1, 1) := by decide +kernel
theorem dX11_point_18 : decode cX11_point 18 = .ok (.if_icmp .le 5, 3) := by decide +kernel
theorem dX11_point_21 : decode cX11_point 21 = .ok (.iconst (-1), 1) := by decide +kernel
theorem dX11_point_22 : decode cX11_point 22 = .ok (.ireturn, 1) := by decide +kernel
theorem dX11_point_23 : decode cX11_point 23 = .ok (.iload_n 3, 1) := by decide +kernel
theorem dX11_point_24 : decode cX11_point 24 = .ok (.ifCond .ne 17, 3) := by decide +kernel
theorem dX11_point_27 : decode cX11_point 27 = .ok (.aload_n 0, 1) := by decide +kernel
theorem dX11_point_28 : decode cX11_point 28 = .ok (.getfield 24, 3) := by decide +kernel
theorem dX11_point_31 : decode cX11_point 31 = .ok (.getfield 171, 3) := by decide +kernel
theorem dX11_point_34 : decode cX11_point 34 = .ok (.iload_n 1, 1) := by decide +kernel
theorem dX11_point_35 : decode cX11_point 35 = .ok (.aaload, 1) := by decide +kernel
theorem dX11_point_36 : decode cX11_point 36 = .ok (.iload_n 2, 1) := by decide +kernel
theorem dX11_point_37 : decode cX11_point 37 = .ok (.iaload, 1) := by decide +kernel
theorem dX11_point_38 : decode cX11_point 38 = .ok (.goto 14, 3) := by decide +kernel
theorem dX11_point_41 : decode cX11_point 41 = .ok (.aload_n 0, 1) := by decide +kernel
theorem dX11_point_42 : decode cX11_point 42 = .ok (.getfield 24, 3) := by decide +kernel
theorem dX11_point_45 : decode cX11_point 45 = .ok (.getfield 175, 3) := by decide +kernel
theorem dX11_point_48 : decode cX11_point 48 = .ok (.iload_n 1, 1) := by decide +kernel
theorem dX11_point_49 : decode cX11_point 49 = .ok (.aaload, 1) := by decide +kernel
theorem dX11_point_50 : decode cX11_point 50 = .ok (.iload_n 2, 1) := by decide +kernel
theorem dX11_point_51 : decode cX11_point 51 = .ok (.iaload, 1) := by decide +kernel
theorem dX11_point_52 : decode cX11_point 52 = .ok (.ireturn, 1) := by decide +kernel
theorem dX11_core_0 : decode cX11_core 0 = .ok (.aload_n 0, 1) := by decide +kernel
theorem dX11_core_1 : decode cX11_core 1 = .ok (.getfield 24, 3) := by decide +kernel
theorem dX11_core_4 : decode cX11_core 4 = .ok (.iload_n 1, 1) := by decide +kernel
theorem dX11_core_5 : decode cX11_core 5 = .ok (.invokevirtual 178, 3) := by decide +kernel
theorem dX11_core_8 : decode cX11_core 8 = .ok (.ifCond .ne 6, 3) := by decide +kernel
theorem dX11_core_11 : decode cX11_core 11 = .ok (.ldc 181, 2) := by decide +kernel
theorem dX11_core_13 : decode cX11_core 13 = .ok (.ireturn, 1) := by decide +kernel
theorem dX11_core_14 : decode cX11_core 14 = .ok (.iload_n 2, 1) := by decide +kernel
theorem dX11_core_15 : decode cX11_core 15 = .ok (.tableswitch 102 0 4 #[33, 43, 55, 65, 71], 33) := by decide +kernel
theorem dX11_core_48 : decode cX11_core 48 = .ok (.aload_n 0, 1) := by decide +kernel
theorem dX11_core_49 : decode cX11_core 49 = .ok (.getfield 24, 3) := by decide +kernel
theorem dX11_core_52 : decode cX11_core 52 = .ok (.getfield 182, 3) := by decide +kernel
theorem dX11_core_55 : decode cX11_core 55 = .ok (.iload_n 1, 1) := by decide +kernel
theorem dX11_core_56 : decode cX11_core 56 = .ok (.iaload, 1) := by decide +kernel
theorem dX11_core_57 : decode cX11_core 57 = .ok (.ireturn, 1) := by decide +kernel
theorem dX11_core_58 : decode cX11_core 58 = .ok (.aload_n 0, 1) := by decide +kernel
theorem dX11_core_59 : decode cX11_core 59 = .ok (.getfield 42, 3) := by decide +kernel
theorem dX11_core_62 : decode cX11_core 62 = .ok (.getfield 185, 3) := by decide +kernel
theorem dX11_core_65 : decode cX11_core 65 = .ok (.iload_n 1, 1) := by decide +kernel
theorem dX11_core_66 : decode cX11_core 66 = .ok (.invokestatic 188, 3) := by decide +kernel
theorem dX11_core_69 : decode cX11_core 69 = .ok (.ireturn, 1) := by decide +kernel
theorem dX11_core_70 : decode cX11_core 70 = .ok (.aload_n 0, 1) := by decide +kernel
theorem dX11_core_71 : decode cX11_core 71 = .ok (.getfield 42, 3) := by decide +kernel
theorem dX11_core_74 : decode cX11_core 74 = .ok (.getfield 191, 3) := by decide +kernel
theorem dX11_core_77 : decode cX11_core 77 = .ok (.iload_n 1, 1) := by decide +kernel
theorem dX11_core_78 : decode cX11_core 78 = .ok (.iaload, 1) := by decide +kernel
theorem dX11_core_79 : decode cX11_core 79 = .ok (.ireturn, 1) := by decide +kernel
theorem dX11_core_80 : decode cX11_core 80 = .ok (.aload_n 0, 1) := by decide +kernel
theorem dX11_core_81 : decode cX11_core 81 = .ok (.iload_n 1, 1) := by decide +kernel
theorem dX11_core_82 : decode cX11_core 82 = .ok (.invokevirtual 194, 3) := by decide +kernel
theorem dX11_core_85 : decode cX11_core 85 = .ok (.ireturn, 1) := by decide +kernel
theorem dX11_core_86 : decode cX11_core 86 = .ok (.aload_n 0, 1) := by decide +kernel
theorem dX11_core_87 : decode cX11_core 87 = .ok (.getfield 80, 3) := by decide +kernel
theorem dX11_core_90 : decode cX11_core 90 = .ok (.aload_n 0, 1) := by decide +kernel
theorem dX11_core_91 : decode cX11_core 91 = .ok (.getfield 24, 3) := by decide +kernel
theorem dX11_core_94 : decode cX11_core 94 = .ok (.aload_n 0, 1) := by decide +kernel
theorem dX11_core_95 : decode cX11_core 95 = .ok (.getfield 42, 3) := by decide +kernel
theorem dX11_core_98 : decode cX11_core 98 = .ok (.aload_n 0, 1) := by decide +kernel
theorem dX11_core_99 : decode cX11_core 99 = .ok (.getfield 24, 3) := by decide +kernel
theorem dX11_core_102 : decode cX11_core 102 = .ok (.getfield 182, 3) := by decide +kernel
theorem dX11_core_105 : decode cX11_core 105 = .ok (.iload_n 1, 1) := by decide +kernel
theorem dX11_core_106 : decode cX11_core 106 = .ok (.iaload, 1) := by decide +kernel
theorem dX11_core_107 : decode cX11_core 107 = .ok (.invokevirtual 197, 3) := by decide +kernel
theorem dX11_core_110 : decode cX11_core 110 = .ok (.aload_n 0, 1) := by decide +kernel
theorem dX11_core_111 : decode cX11_core 111 = .ok (.iload_n 1, 1) := by decide +kernel
theorem dX11_core_112 : decode cX11_core 112 = .ok (.invokevirtual 203, 3) := by decide +kernel
theorem dX11_core_115 : decode cX11_core 115 = .ok (.isub, 1) := by decide +kernel
theorem dX11_core_116 : decode cX11_core 116 = .ok (.ireturn, 1) := by decide +kernel
theorem dX11_core_117 : decode cX11_core 117 = .ok (.ldc 181, 2) := by decide +kernel
theorem dX11_core_119 : decode cX11_core 119 = .ok (.ireturn, 1) := by decide +kernel
theorem dX11_task_0 : decode cX11_task 0 = .ok (.aload_n 0, 1) := by decide +kernel
theorem dX11_task_1 : decode cX11_task 1 = .ok (.getfield 24, 3) := by decide +kernel
theorem dX11_task_4 : decode cX11_task 4 = .ok (.iload_n 1, 1) := by decide +kernel
theorem dX11_task_5 : decode cX11_task 5 = .ok (.invokevirtual 206, 3) := by decide +kernel
theorem dX11_task_8 : decode cX11_task 8 = .ok (.ifCond .ne 5, 3) := by decide +kernel
theorem dX11_task_11 : decode cX11_task 11 = .ok (.iconst (-1), 1) := by decide +kernel
theorem dX11_task_12 : decode cX11_task 12 = .ok (.ireturn, 1) := by decide +kernel
theorem dX11_task_13 : decode cX11_task 13 = .ok (.iload_n 2, 1) := by decide +kernel
theorem dX11_task_14 : decode cX11_task 14 = .ok (.tableswitch 124 0 7 #[46, 56, 66, 76, 86, 96, 106, 118], 46) := by decide +kernel
theorem dX11_task_60 : decode cX11_task 60 = .ok (.aload_n 0, 1) := by decide +kernel
theorem dX11_task_61 : decode cX11_task 61 = .ok (.getfield 24, 3) := by decide +kernel
theorem dX11_task_64 : decode cX11_task 64 = .ok (.getfield 209, 3) := by decide +kernel
theorem dX11_task_67 : decode cX11_task 67 = .ok (.iload_n 1, 1) := by decide +kernel
theorem dX11_task_68 : decode cX11_task 68 = .ok (.iaload, 1) := by decide +kernel
theorem dX11_task_69 : decode cX11_task 69 = .ok (.ireturn, 1) := by decide +kernel
theorem dX11_task_70 : decode cX11_task 70 = .ok (.aload_n 0, 1) := by decide +kernel
theorem dX11_task_71 : decode cX11_task 71 = .ok (.getfield 24, 3) := by decide +kernel
theorem dX11_task_74 : decode cX11_task 74 = .ok (.getfield 212, 3) := by decide +kernel
theorem dX11_task_77 : decode cX11_task 77 = .ok (.iload_n 1, 1) := by decide +kernel
theorem dX11_task_78 : decode cX11_task 78 = .ok (.iaload, 1) := by decide +kernel
theorem dX11_task_79 : decode cX11_task 79 = .ok (.ireturn, 1) := by decide +kernel
theorem dX11_task_80 : decode cX11_task 80 = .ok (.aload_n 0, 1) := by decide +kernel
theorem dX11_task_81 : decode cX11_task 81 = .ok (.getfield 42, 3) := by decide +kernel
theorem dX11_task_84 : decode cX11_task 84 = .ok (.getfield 215, 3) := by decide +kernel
theorem dX11_task_87 : decode cX11_task 87 = .ok (.iload_n 1, 1) := by decide +kernel
theorem dX11_task_88 : decode cX11_task 88 = .ok (.iaload, 1) := by decide +kernel
theorem dX11_task_89 : decode cX11_task 89 = .ok (.ireturn, 1) := by decide +kernel
theorem dX11_task_90 : decode cX11_task 90 = .ok (.aload_n 0, 1) := by decide +kernel
theorem dX11_task_91 : decode cX11_task 91 = .ok (.getfield 42, 3) := by decide +kernel
theorem dX11_task_94 : decode cX11_task 94 = .ok (.getfield 218, 3) := by decide +kernel
theorem dX11_task_97 : decode cX11_task 97 = .ok (.iload_n 1, 1) := by decide +kernel
theorem dX11_task_98 : decode cX11_task 98 = .ok (.iaload, 1) := by decide +kernel
theorem dX11_task_99 : decode cX11_task 99 = .ok (.ireturn, 1) := by decide +kernel
theorem dX11_task_100 : decode cX11_task 100 = .ok (.aload_n 0, 1) := by decide +kernel
theorem dX11_task_101 : decode cX11_task 101 = .ok (.getfield 42, 3) := by decide +kernel
theorem dX11_task_104 : decode cX11_task 104 = .ok (.getfield 221, 3) := by decide +kernel
theorem dX11_task_107 : decode cX11_task 107 = .ok (.iload_n 1, 1) := by decide +kernel
theorem dX11_task_108 : decode cX11_task 108 = .ok (.iaload, 1) := by decide +kernel
theorem dX11_task_109 : decode cX11_task 109 = .ok (.ireturn, 1) := by decide +kernel
theorem dX11_task_110 : decode cX11_task 110 = .ok (.aload_n 0, 1) := by decide +kernel
theorem dX11_task_111 : decode cX11_task 111 = .ok (.getfield 42, 3) := by decide +kernel
theorem dX11_task_114 : decode cX11_task 114 = .ok (.getfield 224, 3) := by decide +kernel
theorem dX11_task_117 : decode cX11_task 117 = .ok (.iload_n 1, 1) := by decide +kernel
theorem dX11_task_118 : decode cX11_task 118 = .ok (.iaload, 1) := by decide +kernel
theorem dX11_task_119 : decode cX11_task 119 = .ok (.ireturn, 1) := by decide +kernel
theorem dX11_task_120 : decode cX11_task 120 = .ok (.aload_n 0, 1) := by decide +kernel
theorem dX11_task_121 : decode cX11_task 121 = .ok (.getfield 42, 3) := by decide +kernel
theorem dX11_task_124 : decode cX11_task 124 = .ok (.getfield 227, 3) := by decide +kernel
theorem dX11_task_127 : decode cX11_task 127 = .ok (.iload_n 1, 1) := by decide +kernel
theorem dX11_task_128 : decode cX11_task 128 = .ok (.invokestatic 188, 3) := by decide +kernel
theorem dX11_task_131 : decode cX11_task 131 = .ok (.ireturn, 1) := by decide +kernel
theorem dX11_task_132 : decode cX11_task 132 = .ok (.aload_n 0, 1) := by decide +kernel
theorem dX11_task_133 : decode cX11_task 133 = .ok (.iload_n 1, 1) := by decide +kernel
theorem dX11_task_134 : decode cX11_task 134 = .ok (.invokevirtual 230, 3) := by decide +kernel
theorem dX11_task_137 : decode cX11_task 137 = .ok (.ireturn, 1) := by decide +kernel
theorem dX11_task_138 : decode cX11_task 138 = .ok (.iconst (-1), 1) := by decide +kernel
theorem dX11_task_139 : decode cX11_task 139 = .ok (.ireturn, 1) := by decide +kernel
theorem dX11_name_0 : decode cX11_name 0 = .ok (.iload_n 1, 1) := by decide +kernel
theorem dX11_name_1 : decode cX11_name 1 = .ok (.ifCond .ne 28, 3) := by decide +kernel
theorem dX11_name_4 : decode cX11_name 4 = .ok (.aload_n 0, 1) := by decide +kernel
theorem dX11_name_5 : decode cX11_name 5 = .ok (.getfield 24, 3) := by decide +kernel
theorem dX11_name_8 : decode cX11_name 8 = .ok (.iload_n 2, 1) := by decide +kernel
theorem dX11_name_9 : decode cX11_name 9 = .ok (.invokevirtual 153, 3) := by decide +kernel
theorem dX11_name_12 : decode cX11_name 12 = .ok (.ifCond .eq 17, 3) := by decide +kernel
theorem dX11_name_15 : decode cX11_name 15 = .ok (.aload_n 0, 1) := by decide +kernel
theorem dX11_name_16 : decode cX11_name 16 = .ok (.getfield 24, 3) := by decide +kernel
theorem dX11_name_19 : decode cX11_name 19 = .ok (.getfield 233, 3) := by decide +kernel
theorem dX11_name_22 : decode cX11_name 22 = .ok (.iload_n 2, 1) := by decide +kernel
theorem dX11_name_23 : decode cX11_name 23 = .ok (.laload, 1) := by decide +kernel
theorem dX11_name_24 : decode cX11_name 24 = .ok (.iload_n 3, 1) := by decide +kernel
theorem dX11_name_25 : decode cX11_name 25 = .ok (.invokestatic 237, 3) := by decide +kernel
theorem dX11_name_28 : decode cX11_name 28 = .ok (.ireturn, 1) := by decide +kernel
theorem dX11_name_29 : decode cX11_name 29 = .ok (.iload_n 1, 1) := by decide +kernel
theorem dX11_name_30 : decode cX11_name 30 = .ok (.iconst 1, 1) := by decide +kernel
theorem dX11_name_31 : decode cX11_name 31 = .ok (.if_icmp .ne 28, 3) := by decide +kernel
theorem dX11_name_34 : decode cX11_name 34 = .ok (.aload_n 0, 1) := by decide +kernel
theorem dX11_name_35 : decode cX11_name 35 = .ok (.getfield 24, 3) := by decide +kernel
theorem dX11_name_38 : decode cX11_name 38 = .ok (.iload_n 2, 1) := by decide +kernel
theorem dX11_name_39 : decode cX11_name 39 = .ok (.invokevirtual 206, 3) := by decide +kernel
theorem dX11_name_42 : decode cX11_name 42 = .ok (.ifCond .eq 17, 3) := by decide +kernel
theorem dX11_name_45 : decode cX11_name 45 = .ok (.aload_n 0, 1) := by decide +kernel
theorem dX11_name_46 : decode cX11_name 46 = .ok (.getfield 24, 3) := by decide +kernel
theorem dX11_name_49 : decode cX11_name 49 = .ok (.getfield 241, 3) := by decide +kernel
theorem dX11_name_52 : decode cX11_name 52 = .ok (.iload_n 2, 1) := by decide +kernel
theorem dX11_name_53 : decode cX11_name 53 = .ok (.laload, 1) := by decide +kernel
theorem dX11_name_54 : decode cX11_name 54 = .ok (.iload_n 3, 1) := by decide +kernel
theorem dX11_name_55 : decode cX11_name 55 = .ok (.invokestatic 237, 3) := by decide +kernel
theorem dX11_name_58 : decode cX11_name 58 = .ok (.ireturn, 1) := by decide +kernel
theorem dX11_name_59 : decode cX11_name 59 = .ok (.iload_n 1, 1) := by decide +kernel
theorem dX11_name_60 : decode cX11_name 60 = .ok (.iconst 2, 1) := by decide +kernel
theorem dX11_name_61 : decode cX11_name 61 = .ok (.if_icmp .ne 28, 3) := by decide +kernel
theorem dX11_name_64 : decode cX11_name 64 = .ok (.aload_n 0, 1) := by decide +kernel
theorem dX11_name_65 : decode cX11_name 65 = .ok (.getfield 42, 3) := by decide +kernel
theorem dX11_name_68 : decode cX11_name 68 = .ok (.iload_n 2, 1) := by decide +kernel
theorem dX11_name_69 : decode cX11_name 69 = .ok (.invokevirtual 244, 3) := by decide +kernel
theorem dX11_name_72 : decode cX11_name 72 = .ok (.ifCond .eq 17, 3) := by decide +kernel
theorem dX11_name_75 : decode cX11_name 75 = .ok (.aload_n 0, 1) := by decide +kernel
theorem dX11_name_76 : decode cX11_name 76 = .ok (.getfield 42, 3) := by decide +kernel
theorem dX11_name_79 : decode cX11_name 79 = .ok (.getfield 247, 3) := by decide +kernel
theorem dX11_name_82 : decode cX11_name 82 = .ok (.iload_n 2, 1) := by decide +kernel
theorem dX11_name_83 : decode cX11_name 83 = .ok (.laload, 1) := by decide +kernel
theorem dX11_name_84 : decode cX11_name 84 = .ok (.iload_n 3, 1) := by decide +kernel
theorem dX11_name_85 : decode cX11_name 85 = .ok (.invokestatic 237, 3) := by decide +kernel
theorem dX11_name_88 : decode cX11_name 88 = .ok (.ireturn, 1) := by decide +kernel
theorem dX11_name_89 : decode cX11_name 89 = .ok (.iconst (-1), 1) := by decide +kernel
theorem dX11_name_90 : decode cX11_name 90 = .ok (.ireturn, 1) := by decide +kernel
theorem dX11_asked_0 : decode cX11_asked 0 = .ok (.aload_n 0, 1) := by decide +kernel
theorem dX11_asked_1 : decode cX11_asked 1 = .ok (.getfield 42, 3) := by decide +kernel
theorem dX11_asked_4 : decode cX11_asked 4 = .ok (.iload_n 1, 1) := by decide +kernel
theorem dX11_asked_5 : decode cX11_asked 5 = .ok (.invokevirtual 244, 3) := by decide +kernel
theorem dX11_asked_8 : decode cX11_asked 8 = .ok (.ifCond .ne 5, 3) := by decide +kernel
theorem dX11_asked_11 : decode cX11_asked 11 = .ok (.iconst (-1), 1) := by decide +kernel
theorem dX11_asked_12 : decode cX11_asked 12 = .ok (.ireturn, 1) := by decide +kernel
theorem dX11_asked_13 : decode cX11_asked 13 = .ok (.iload_n 2, 1) := by decide +kernel
theorem dX11_asked_14 : decode cX11_asked 14 = .ok (.tableswitch 56 0 2 #[26, 36, 46], 26) := by decide +kernel
theorem dX11_asked_40 : decode cX11_asked 40 = .ok (.aload_n 0, 1) := by decide +kernel
theorem dX11_asked_41 : decode cX11_asked 41 = .ok (.getfield 42, 3) := by decide +kernel
theorem dX11_asked_44 : decode cX11_asked 44 = .ok (.getfield 250, 3) := by decide +kernel
theorem dX11_asked_47 : decode cX11_asked 47 = .ok (.iload_n 1, 1) := by decide +kernel
theorem dX11_asked_48 : decode cX11_asked 48 = .ok (.iaload, 1) := by decide +kernel
theorem dX11_asked_49 : decode cX11_asked 49 = .ok (.ireturn, 1) := by decide +kernel
theorem dX11_asked_50 : decode cX11_asked 50 = .ok (.aload_n 0, 1) := by decide +kernel
theorem dX11_asked_51 : decode cX11_asked 51 = .ok (.getfield 42, 3) := by decide +kernel
theorem dX11_asked_54 : decode cX11_asked 54 = .ok (.getfield 253, 3) := by decide +kernel
theorem dX11_asked_57 : decode cX11_asked 57 = .ok (.iload_n 1, 1) := by decide +kernel
theorem dX11_asked_58 : decode cX11_asked 58 = .ok (.iaload, 1) := by decide +kernel
theorem dX11_asked_59 : decode cX11_asked 59 = .ok (.ireturn, 1) := by decide +kernel
theorem dX11_asked_60 : decode cX11_asked 60 = .ok (.aload_n 0, 1) := by decide +kernel
theorem dX11_asked_61 : decode cX11_asked 61 = .ok (.getfield 42, 3) := by decide +kernel
theorem dX11_asked_64 : decode cX11_asked 64 = .ok (.getfield 256, 3) := by decide +kernel
theorem dX11_asked_67 : decode cX11_asked 67 = .ok (.iload_n 1, 1) := by decide +kernel
theorem dX11_asked_68 : decode cX11_asked 68 = .ok (.iaload, 1) := by decide +kernel
theorem dX11_asked_69 : decode cX11_asked 69 = .ok (.ireturn, 1) := by decide +kernel
theorem dX11_asked_70 : decode cX11_asked 70 = .ok (.iconst (-1), 1) := by decide +kernel
theorem dX11_asked_71 : decode cX11_asked 71 = .ok (.ireturn, 1) := by decide +kernel
theorem dX11_tick_0 : decode cX11_tick 0 = .ok (.aload_n 0, 1) := by decide +kernel
theorem dX11_tick_1 : decode cX11_tick 1 = .ok (.getfield 89, 3) := by decide +kernel
theorem dX11_tick_4 : decode cX11_tick 4 = .ok (.iconst 0, 1) := by decide +kernel
theorem dX11_tick_5 : decode cX11_tick 5 = .ok (.iload_n 1, 1) := by decide +kernel
theorem dX11_tick_6 : decode cX11_tick 6 = .ok (.iconst 0, 1) := by decide +kernel
theorem dX11_tick_7 : decode cX11_tick 7 = .ok (.iconst 0, 1) := by decide +kernel
theorem dX11_tick_8 : decode cX11_tick 8 = .ok (.lconst 0, 1) := by decide +kernel
theorem dX11_tick_9 : decode cX11_tick 9 = .ok (.invokevirtual 259, 3) := by decide +kernel
theorem dX11_tick_12 : decode cX11_tick 12 = .ok (.aload_n 0, 1) := by decide +kernel
theorem dX11_tick_13 : decode cX11_tick 13 = .ok (.aload_n 0, 1) := by decide +kernel
theorem dX11_tick_14 : decode cX11_tick 14 = .ok (.getfield 89, 3) := by decide +kernel
theorem dX11_tick_17 : decode cX11_tick 17 = .ok (.invokevirtual 263, 3) := by decide +kernel
theorem dX11_tick_20 : decode cX11_tick 20 = .ok (.ireturn, 1) := by decide +kernel
theorem dX11_move_0 : decode cX11_move 0 = .ok (.aload_n 0, 1) := by decide +kernel
theorem dX11_move_1 : decode cX11_move 1 = .ok (.getfield 89, 3) := by decide +kernel
theorem dX11_move_4 : decode cX11_move 4 = .ok (.iconst 1, 1) := by decide +kernel
theorem dX11_move_5 : decode cX11_move 5 = .ok (.iload_n 1, 1) := by decide +kernel
theorem dX11_move_6 : decode cX11_move 6 = .ok (.iload_n 2, 1) := by decide +kernel
theorem dX11_move_7 : decode cX11_move 7 = .ok (.iconst 0, 1) := by decide +kernel
theorem dX11_move_8 : decode cX11_move 8 = .ok (.lconst 0, 1) := by decide +kernel
theorem dX11_move_9 : decode cX11_move 9 = .ok (.invokevirtual 259, 3) := by decide +kernel
theorem dX11_move_12 : decode cX11_move 12 = .ok (.aload_n 0, 1) := by decide +kernel
theorem dX11_move_13 : decode cX11_move 13 = .ok (.aload_n 0, 1) := by decide +kernel
theorem dX11_move_14 : decode cX11_move 14 = .ok (.getfield 89, 3) := by decide +kernel
theorem dX11_move_17 : decode cX11_move 17 = .ok (.invokevirtual 263, 3) := by decide +kernel
theorem dX11_move_20 : decode cX11_move 20 = .ok (.ireturn, 1) := by decide +kernel
theorem dX11_ask_0 : decode cX11_ask 0 = .ok (.aload_n 0, 1) := by decide +kernel
theorem dX11_ask_1 : decode cX11_ask 1 = .ok (.getfield 89, 3) := by decide +kernel
theorem dX11_ask_4 : decode cX11_ask 4 = .ok (.iconst 2, 1) := by decide +kernel
theorem dX11_ask_5 : decode cX11_ask 5 = .ok (.iload_n 1, 1) := by decide +kernel
theorem dX11_ask_6 : decode cX11_ask 6 = .ok (.iload_n 2, 1) := by decide +kernel
theorem dX11_ask_7 : decode cX11_ask 7 = .ok (.iload_n 3, 1) := by decide +kernel
theorem dX11_ask_8 : decode cX11_ask 8 = .ok (.aload_n 0, 1) := by decide +kernel
theorem dX11_ask_9 : decode cX11_ask 9 = .ok (.getfield 12, 3) := by decide +kernel
theorem dX11_ask_12 : decode cX11_ask 12 = .ok (.invokevirtual 123, 3) := by decide +kernel
theorem dX11_ask_15 : decode cX11_ask 15 = .ok (.invokevirtual 259, 3) := by decide +kernel
theorem dX11_ask_18 : decode cX11_ask 18 = .ok (.aload_n 0, 1) := by decide +kernel
theorem dX11_ask_19 : decode cX11_ask 19 = .ok (.aload_n 0, 1) := by decide +kernel
theorem dX11_ask_20 : decode cX11_ask 20 = .ok (.aload_n 0, 1) := by decide +kernel
theorem dX11_ask_21 : decode cX11_ask 21 = .ok (.getfield 89, 3) := by decide +kernel
theorem dX11_ask_24 : decode cX11_ask 24 = .ok (.invokevirtual 263, 3) := by decide +kernel
theorem dX11_ask_27 : decode cX11_ask 27 = .ok (.invokevirtual 267, 3) := by decide +kernel
theorem dX11_ask_30 : decode cX11_ask 30 = .ok (.ireturn, 1) := by decide +kernel
theorem dX11_drop_0 : decode cX11_drop 0 = .ok (.aload_n 0, 1) := by decide +kernel
theorem dX11_drop_1 : decode cX11_drop 1 = .ok (.getfield 89, 3) := by decide +kernel
theorem dX11_drop_4 : decode cX11_drop 4 = .ok (.iconst 3, 1) := by decide +kernel
theorem dX11_drop_5 : decode cX11_drop 5 = .ok (.iload_n 1, 1) := by decide +kernel
theorem dX11_drop_6 : decode cX11_drop 6 = .ok (.iconst 0, 1) := by decide +kernel
theorem dX11_drop_7 : decode cX11_drop 7 = .ok (.iconst 0, 1) := by decide +kernel
theorem dX11_drop_8 : decode cX11_drop 8 = .ok (.aload_n 0, 1) := by decide +kernel
theorem dX11_drop_9 : decode cX11_drop 9 = .ok (.getfield 12, 3) := by decide +kernel
theorem dX11_drop_12 : decode cX11_drop 12 = .ok (.invokevirtual 123, 3) := by decide +kernel
theorem dX11_drop_15 : decode cX11_drop 15 = .ok (.invokevirtual 259, 3) := by decide +kernel
theorem dX11_drop_18 : decode cX11_drop 18 = .ok (.aload_n 0, 1) := by decide +kernel
theorem dX11_drop_19 : decode cX11_drop 19 = .ok (.aload_n 0, 1) := by decide +kernel
theorem dX11_drop_20 : decode cX11_drop 20 = .ok (.aload_n 0, 1) := by decide +kernel
theorem dX11_drop_21 : decode cX11_drop 21 = .ok (.getfield 89, 3) := by decide +kernel
theorem dX11_drop_24 : decode cX11_drop 24 = .ok (.invokevirtual 263, 3) := by decide +kernel
theorem dX11_drop_27 : decode cX11_drop 27 = .ok (.invokevirtual 267, 3) := by decide +kernel
theorem dX11_drop_30 : decode cX11_drop 30 = .ok (.ireturn, 1) := by decide +kernel
theorem dX11_stop_0 : decode cX11_stop 0 = .ok (.aload_n 0, 1) := by decide +kernel
theorem dX11_stop_1 : decode cX11_stop 1 = .ok (.getfield 89, 3) := by decide +kernel
theorem dX11_stop_4 : decode cX11_stop 4 = .ok (.iconst 4, 1) := by decide +kernel
theorem dX11_stop_5 : decode cX11_stop 5 = .ok (.iload_n 1, 1) := by decide +kernel
theorem dX11_stop_6 : decode cX11_stop 6 = .ok (.iconst 0, 1) := by decide +kernel
theorem dX11_stop_7 : decode cX11_stop 7 = .ok (.iconst 0, 1) := by decide +kernel
theorem dX11_stop_8 : decode cX11_stop 8 = .ok (.lconst 0, 1) := by decide +kernel
theorem dX11_stop_9 : decode cX11_stop 9 = .ok (.invokevirtual 259, 3) := by decide +kernel
theorem dX11_stop_12 : decode cX11_stop 12 = .ok (.aload_n 0, 1) := by decide +kernel
theorem dX11_stop_13 : decode cX11_stop 13 = .ok (.aload_n 0, 1) := by decide +kernel
theorem dX11_stop_14 : decode cX11_stop 14 = .ok (.getfield 89, 3) := by decide +kernel
theorem dX11_stop_17 : decode cX11_stop 17 = .ok (.invokevirtual 263, 3) := by decide +kernel
theorem dX11_stop_20 : decode cX11_stop 20 = .ok (.ireturn, 1) := by decide +kernel
theorem dX11_start_0 : decode cX11_start 0 = .ok (.aload_n 0, 1) := by decide +kernel
theorem dX11_start_1 : decode cX11_start 1 = .ok (.getfield 89, 3) := by decide +kernel
theorem dX11_start_4 : decode cX11_start 4 = .ok (.iconst 5, 1) := by decide +kernel
theorem dX11_start_5 : decode cX11_start 5 = .ok (.iload_n 1, 1) := by decide +kernel
theorem dX11_start_6 : decode cX11_start 6 = .ok (.iconst 0, 1) := by decide +kernel
theorem dX11_start_7 : decode cX11_start 7 = .ok (.iconst 0, 1) := by decide +kernel
theorem dX11_start_8 : decode cX11_start 8 = .ok (.lconst 0, 1) := by decide +kernel
theorem dX11_start_9 : decode cX11_start 9 = .ok (.invokevirtual 259, 3) := by decide +kernel
theorem dX11_start_12 : decode cX11_start 12 = .ok (.aload_n 0, 1) := by decide +kernel
theorem dX11_start_13 : decode cX11_start 13 = .ok (.aload_n 0, 1) := by decide +kernel
theorem dX11_start_14 : decode cX11_start 14 = .ok (.getfield 89, 3) := by decide +kernel
theorem dX11_start_17 : decode cX11_start 17 = .ok (.invokevirtual 263, 3) := by decide +kernel
theorem dX11_start_20 : decode cX11_start 20 = .ok (.ireturn, 1) := by decide +kernel
theorem dX11_settle_0 : decode cX11_settle 0 = .ok (.aload_n 0, 1) := by decide +kernel
theorem dX11_settle_1 : decode cX11_settle 1 = .ok (.getfield 89, 3) := by decide +kernel
theorem dX11_settle_4 : decode cX11_settle 4 = .ok (.bipush 6, 2) := by decide +kernel
theorem dX11_settle_6 : decode cX11_settle 6 = .ok (.iconst 0, 1) := by decide +kernel
theorem dX11_settle_7 : decode cX11_settle 7 = .ok (.iconst 0, 1) := by decide +kernel
theorem dX11_settle_8 : decode cX11_settle 8 = .ok (.iconst 0, 1) := by decide +kernel
theorem dX11_settle_9 : decode cX11_settle 9 = .ok (.lconst 0, 1) := by decide +kernel
theorem dX11_settle_10 : decode cX11_settle 10 = .ok (.invokevirtual 259, 3) := by decide +kernel
theorem dX11_settle_13 : decode cX11_settle 13 = .ok (.aload_n 0, 1) := by decide +kernel
theorem dX11_settle_14 : decode cX11_settle 14 = .ok (.aload_n 0, 1) := by decide +kernel
theorem dX11_settle_15 : decode cX11_settle 15 = .ok (.getfield 89, 3) := by decide +kernel
theorem dX11_settle_18 : decode cX11_settle 18 = .ok (.invokevirtual 263, 3) := by decide +kernel
theorem dX11_settle_21 : decode cX11_settle 21 = .ok (.ireturn, 1) := by decide +kernel
theorem dX11_years_0 : decode cX11_years 0 = .ok (.aload_n 0, 1) := by decide +kernel
theorem dX11_years_1 : decode cX11_years 1 = .ok (.getfield 24, 3) := by decide +kernel
theorem dX11_years_4 : decode cX11_years 4 = .ok (.invokevirtual 140, 3) := by decide +kernel
theorem dX11_years_7 : decode cX11_years 7 = .ok (.ifCond .eq 14, 3) := by decide +kernel
theorem dX11_years_10 : decode cX11_years 10 = .ok (.iload_n 1, 1) := by decide +kernel
theorem dX11_years_11 : decode cX11_years 11 = .ok (.iconst 1, 1) := by decide +kernel
theorem dX11_years_12 : decode cX11_years 12 = .ok (.if_icmp .lt 9, 3) := by decide +kernel
theorem dX11_years_15 : decode cX11_years 15 = .ok (.iload_n 1, 1) := by decide +kernel
theorem dX11_years_16 : decode cX11_years 16 = .ok (.bipush 40, 2) := by decide +kernel
theorem dX11_years_18 : decode cX11_years 18 = .ok (.if_icmp .le 5, 3) := by decide +kernel
theorem dX11_years_21 : decode cX11_years 21 = .ok (.iconst (-1), 1) := by decide +kernel
theorem dX11_years_22 : decode cX11_years 22 = .ok (.ireturn, 1) := by decide +kernel
theorem dX11_years_23 : decode cX11_years 23 = .ok (.aload_n 0, 1) := by decide +kernel
theorem dX11_years_24 : decode cX11_years 24 = .ok (.lload_n 2, 1) := by decide +kernel
theorem dX11_years_25 : decode cX11_years 25 = .ok (.putfield 270, 3) := by decide +kernel
theorem dX11_years_28 : decode cX11_years 28 = .ok (.iconst 0, 1) := by decide +kernel
theorem dX11_years_29 : decode cX11_years 29 = .ok (.istore 4, 2) := by decide +kernel
theorem dX11_years_31 : decode cX11_years 31 = .ok (.iload 4, 2) := by decide +kernel
theorem dX11_years_33 : decode cX11_years 33 = .ok (.iload_n 1, 1) := by decide +kernel
theorem dX11_years_34 : decode cX11_years 34 = .ok (.if_icmp .ge 13, 3) := by decide +kernel
theorem dX11_years_37 : decode cX11_years 37 = .ok (.aload_n 0, 1) := by decide +kernel
theorem dX11_years_38 : decode cX11_years 38 = .ok (.invokevirtual 274, 3) := by decide +kernel
theorem dX11_years_41 : decode cX11_years 41 = .ok (.iinc 4 1, 3) := by decide +kernel
theorem dX11_years_44 : decode cX11_years 44 = .ok (.goto (-13), 3) := by decide +kernel
theorem dX11_years_47 : decode cX11_years 47 = .ok (.aload_n 0, 1) := by decide +kernel
theorem dX11_years_48 : decode cX11_years 48 = .ok (.getfield 42, 3) := by decide +kernel
theorem dX11_years_51 : decode cX11_years 51 = .ok (.getfield 277, 3) := by decide +kernel
theorem dX11_years_54 : decode cX11_years 54 = .ok (.ireturn, 1) := by decide +kernel
theorem dX11_status_0 : decode cX11_status 0 = .ok (.iload_n 1, 1) := by decide +kernel
theorem dX11_status_1 : decode cX11_status 1 = .ok (.ifCond .lt 21, 3) := by decide +kernel
theorem dX11_status_4 : decode cX11_status 4 = .ok (.iload_n 1, 1) := by decide +kernel
theorem dX11_status_5 : decode cX11_status 5 = .ok (.aload_n 0, 1) := by decide +kernel
theorem dX11_status_6 : decode cX11_status 6 = .ok (.getfield 93, 3) := by decide +kernel
theorem dX11_status_9 : decode cX11_status 9 = .ok (.arraylength, 1) := by decide +kernel
theorem dX11_status_10 : decode cX11_status 10 = .ok (.if_icmp .ge 12, 3) := by decide +kernel
theorem dX11_status_13 : decode cX11_status 13 = .ok (.aload_n 0, 1) := by decide +kernel
theorem dX11_status_14 : decode cX11_status 14 = .ok (.getfield 93, 3) := by decide +kernel
theorem dX11_status_17 : decode cX11_status 17 = .ok (.iload_n 1, 1) := by decide +kernel
theorem dX11_status_18 : decode cX11_status 18 = .ok (.iaload, 1) := by decide +kernel
theorem dX11_status_19 : decode cX11_status 19 = .ok (.goto 4, 3) := by decide +kernel
theorem dX11_status_22 : decode cX11_status 22 = .ok (.iconst (-1), 1) := by decide +kernel
theorem dX11_status_23 : decode cX11_status 23 = .ok (.ireturn, 1) := by decide +kernel
theorem dX11_undo_0 : decode cX11_undo 0 = .ok (.aload_n 0, 1) := by decide +kernel
theorem dX11_undo_1 : decode cX11_undo 1 = .ok (.getfield 65, 3) := by decide +kernel
theorem dX11_undo_4 : decode cX11_undo 4 = .ok (.aload_n 0, 1) := by decide +kernel
theorem dX11_undo_5 : decode cX11_undo 5 = .ok (.getfield 42, 3) := by decide +kernel
theorem dX11_undo_8 : decode cX11_undo 8 = .ok (.invokevirtual 280, 3) := by decide +kernel
theorem dX11_undo_11 : decode cX11_undo 11 = .ok (.ifCond .eq 13, 3) := by decide +kernel
theorem dX11_undo_14 : decode cX11_undo 14 = .ok (.aload_n 0, 1) := by decide +kernel
theorem dX11_undo_15 : decode cX11_undo 15 = .ok (.getfield 65, 3) := by decide +kernel
theorem dX11_undo_18 : decode cX11_undo 18 = .ok (.getfield 284, 3) := by decide +kernel
theorem dX11_undo_21 : decode cX11_undo 21 = .ok (.goto 4, 3) := by decide +kernel
theorem dX11_undo_24 : decode cX11_undo 24 = .ok (.iconst (-1), 1) := by decide +kernel
theorem dX11_undo_25 : decode cX11_undo 25 = .ok (.ireturn, 1) := by decide +kernel
theorem dX11_log_0 : decode cX11_log 0 = .ok (.iload_n 1, 1) := by decide +kernel
theorem dX11_log_1 : decode cX11_log 1 = .ok (.ifCond .lt 11, 3) := by decide +kernel
theorem dX11_log_4 : decode cX11_log 4 = .ok (.iload_n 1, 1) := by decide +kernel
theorem dX11_log_5 : decode cX11_log 5 = .ok (.aload_n 0, 1) := by decide +kernel
theorem dX11_log_6 : decode cX11_log 6 = .ok (.invokevirtual 287, 3) := by decide +kernel
theorem dX11_log_9 : decode cX11_log 9 = .ok (.if_icmp .lt 6, 3) := by decide +kernel
theorem dX11_log_12 : decode cX11_log 12 = .ok (.ldc 181, 2) := by decide +kernel
theorem dX11_log_14 : decode cX11_log 14 = .ok (.ireturn, 1) := by decide +kernel
theorem dX11_log_15 : decode cX11_log 15 = .ok (.aload_n 0, 1) := by decide +kernel
theorem dX11_log_16 : decode cX11_log 16 = .ok (.getfield 55, 3) := by decide +kernel
theorem dX11_log_19 : decode cX11_log 19 = .ok (.aload_n 0, 1) := by decide +kernel
theorem dX11_log_20 : decode cX11_log 20 = .ok (.getfield 42, 3) := by decide +kernel
theorem dX11_log_23 : decode cX11_log 23 = .ok (.getfield 290, 3) := by decide +kernel
theorem dX11_log_26 : decode cX11_log 26 = .ok (.iconst 1, 1) := by decide +kernel
theorem dX11_log_27 : decode cX11_log 27 = .ok (.isub, 1) := by decide +kernel
theorem dX11_log_28 : decode cX11_log 28 = .ok (.iload_n 1, 1) := by decide +kernel
theorem dX11_log_29 : decode cX11_log 29 = .ok (.isub, 1) := by decide +kernel
theorem dX11_log_30 : decode cX11_log 30 = .ok (.iload_n 2, 1) := by decide +kernel
theorem dX11_log_31 : decode cX11_log 31 = .ok (.invokevirtual 293, 3) := by decide +kernel
theorem dX11_log_34 : decode cX11_log 34 = .ok (.ireturn, 1) := by decide +kernel
theorem dX11_price_0 : decode cX11_price 0 = .ok (.aload_n 0, 1) := by decide +kernel
theorem dX11_price_1 : decode cX11_price 1 = .ok (.getfield 24, 3) := by decide +kernel
theorem dX11_price_4 : decode cX11_price 4 = .ok (.invokevirtual 140, 3) := by decide +kernel
theorem dX11_price_7 : decode cX11_price 7 = .ok (.ifCond .eq 21, 3) := by decide +kernel
theorem dX11_price_10 : decode cX11_price 10 = .ok (.aload_n 0, 1) := by decide +kernel
theorem dX11_price_11 : decode cX11_price 11 = .ok (.getfield 85, 3) := by decide +kernel
theorem dX11_price_14 : decode cX11_price 14 = .ok (.aload_n 0, 1) := by decide +kernel
theorem dX11_price_15 : decode cX11_price 15 = .ok (.getfield 24, 3) := by decide +kernel
theorem dX11_price_18 : decode cX11_price 18 = .ok (.aload_n 0, 1) := by decide +kernel
theorem dX11_price_19 : decode cX11_price 19 = .ok (.getfield 42, 3) := by decide +kernel
theorem dX11_price_22 : decode cX11_price 22 = .ok (.invokevirtual 296, 3) := by decide +kernel
theorem dX11_price_25 : decode cX11_price 25 = .ok (.goto 4, 3) := by decide +kernel
theorem dX11_price_28 : decode cX11_price 28 = .ok (.iconst (-1), 1) := by decide +kernel
theorem dX11_price_29 : decode cX11_price 29 = .ok (.ireturn, 1) := by decide +kernel
theorem dX11_best_0 : decode cX11_best 0 = .ok (.aload_n 0, 1) := by decide +kernel
theorem dX11_best_1 : decode cX11_best 1 = .ok (.getfield 24, 3) := by decide +kernel
theorem dX11_best_4 : decode cX11_best 4 = .ok (.invokevirtual 140, 3) := by decide +kernel
theorem dX11_best_7 : decode cX11_best 7 = .ok (.ifCond .eq 21, 3) := by decide +kernel
theorem dX11_best_10 : decode cX11_best 10 = .ok (.aload_n 0, 1) := by decide +kernel
theorem dX11_best_11 : decode cX11_best 11 = .ok (.getfield 85, 3) := by decide +kernel
theorem dX11_best_14 : decode cX11_best 14 = .ok (.aload_n 0, 1) := by decide +kernel
theorem dX11_best_15 : decode cX11_best 15 = .ok (.getfield 24, 3) := by decide +kernel
theorem dX11_best_18 : decode cX11_best 18 = .ok (.aload_n 0, 1) := by decide +kernel
theorem dX11_best_19 : decode cX11_best 19 = .ok (.getfield 42, 3) := by decide +kernel
theorem dX11_best_22 : decode cX11_best 22 = .ok (.invokevirtual 302, 3) := by decide +kernel
theorem dX11_best_25 : decode cX11_best 25 = .ok (.ifCond .ne 5, 3) := by decide +kernel
theorem dX11_best_28 : decode cX11_best 28 = .ok (.iconst (-1), 1) := by decide +kernel
theorem dX11_best_29 : decode cX11_best 29 = .ok (.ireturn, 1) := by decide +kernel
theorem dX11_best_30 : decode cX11_best 30 = .ok (.iload_n 1, 1) := by decide +kernel
theorem dX11_best_31 : decode cX11_best 31 = .ok (.ifCond .ne 11, 3) := by decide +kernel
theorem dX11_best_34 : decode cX11_best 34 = .ok (.aload_n 0, 1) := by decide +kernel
theorem dX11_best_35 : decode cX11_best 35 = .ok (.getfield 85, 3) := by decide +kernel
theorem dX11_best_38 : decode cX11_best 38 = .ok (.getfield 306, 3) := by decide +kernel
theorem dX11_best_41 : decode cX11_best 41 = .ok (.ireturn, 1) := by decide +kernel
theorem dX11_best_42 : decode cX11_best 42 = .ok (.iload_n 1, 1) := by decide +kernel
theorem dX11_best_43 : decode cX11_best 43 = .ok (.iconst 1, 1) := by decide +kernel
theorem dX11_best_44 : decode cX11_best 44 = .ok (.if_icmp .ne 26, 3) := by decide +kernel
theorem dX11_best_47 : decode cX11_best 47 = .ok (.aload_n 0, 1) := by decide +kernel
theorem dX11_best_48 : decode cX11_best 48 = .ok (.getfield 24, 3) := by decide +kernel
theorem dX11_best_51 : decode cX11_best 51 = .ok (.iload_n 2, 1) := by decide +kernel
theorem dX11_best_52 : decode cX11_best 52 = .ok (.invokevirtual 206, 3) := by decide +kernel
theorem dX11_best_55 : decode cX11_best 55 = .ok (.ifCond .eq 15, 3) := by decide +kernel
theorem dX11_best_58 : decode cX11_best 58 = .ok (.aload_n 0, 1) := by decide +kernel
theorem dX11_best_59 : decode cX11_best 59 = .ok (.getfield 85, 3) := by decide +kernel
theorem dX11_best_62 : decode cX11_best 62 = .ok (.getfield 309, 3) := by decide +kernel
theorem dX11_best_65 : decode cX11_best 65 = .ok (.iload_n 2, 1) := by decide +kernel
theorem dX11_best_66 : decode cX11_best 66 = .ok (.iaload, 1) := by decide +kernel
theorem dX11_best_67 : decode cX11_best 67 = .ok (.goto 4, 3) := by decide +kernel
theorem dX11_best_70 : decode cX11_best 70 = .ok (.iconst (-1), 1) := by decide +kernel
theorem dX11_best_71 : decode cX11_best 71 = .ok (.ireturn, 1) := by decide +kernel
theorem dX11_greedy_0 : decode cX11_greedy 0 = .ok (.aload_n 0, 1) := by decide +kernel
theorem dX11_greedy_1 : decode cX11_greedy 1 = .ok (.getfield 24, 3) := by decide +kernel
theorem dX11_greedy_4 : decode cX11_greedy 4 = .ok (.invokevirtual 140, 3) := by decide +kernel
theorem dX11_greedy_7 : decode cX11_greedy 7 = .ok (.ifCond .eq 21, 3) := by decide +kernel
theorem dX11_greedy_10 : decode cX11_greedy 10 = .ok (.aload_n 0, 1) := by decide +kernel
theorem dX11_greedy_11 : decode cX11_greedy 11 = .ok (.getfield 85, 3) := by decide +kernel
theorem dX11_greedy_14 : decode cX11_greedy 14 = .ok (.aload_n 0, 1) := by decide +kernel
theorem dX11_greedy_15 : decode cX11_greedy 15 = .ok (.getfield 24, 3) := by decide +kernel
theorem dX11_greedy_18 : decode cX11_greedy 18 = .ok (.aload_n 0, 1) := by decide +kernel
theorem dX11_greedy_19 : decode cX11_greedy 19 = .ok (.getfield 42, 3) := by decide +kernel
theorem dX11_greedy_22 : decode cX11_greedy 22 = .ok (.invokevirtual 312, 3) := by decide +kernel
theorem dX11_greedy_25 : decode cX11_greedy 25 = .ok (.ifCond .ne 5, 3) := by decide +kernel
theorem dX11_greedy_28 : decode cX11_greedy 28 = .ok (.iconst (-1), 1) := by decide +kernel
theorem dX11_greedy_29 : decode cX11_greedy 29 = .ok (.ireturn, 1) := by decide +kernel
theorem dX11_greedy_30 : decode cX11_greedy 30 = .ok (.iload_n 1, 1) := by decide +kernel
theorem dX11_greedy_31 : decode cX11_greedy 31 = .ok (.ifCond .ne 15, 3) := by decide +kernel
theorem dX11_greedy_34 : decode cX11_greedy 34 = .ok (.aload_n 0, 1) := by decide +kernel
theorem dX11_greedy_35 : decode cX11_greedy 35 = .ok (.getfield 85, 3) := by decide +kernel
theorem dX11_greedy_38 : decode cX11_greedy 38 = .ok (.aload_n 0, 1) := by decide +kernel
theorem dX11_greedy_39 : decode cX11_greedy 39 = .ok (.getfield 24, 3) := by decide +kernel
theorem dX11_greedy_42 : decode cX11_greedy 42 = .ok (.invokevirtual 315, 3) := by decide +kernel
theorem dX11_greedy_45 : decode cX11_greedy 45 = .ok (.ireturn, 1) := by decide +kernel
theorem dX11_greedy_46 : decode cX11_greedy 46 = .ok (.iload_n 1, 1) := by decide +kernel
theorem dX11_greedy_47 : decode cX11_greedy 47 = .ok (.iconst 1, 1) := by decide +kernel
theorem dX11_greedy_48 : decode cX11_greedy 48 = .ok (.if_icmp .ne 26, 3) := by decide +kernel
theorem dX11_greedy_51 : decode cX11_greedy 51 = .ok (.aload_n 0, 1) := by decide +kernel
theorem dX11_greedy_52 : decode cX11_greedy 52 = .ok (.getfield 24, 3) := by decide +kernel
theorem dX11_greedy_55 : decode cX11_greedy 55 = .ok (.iload_n 2, 1) := by decide +kernel
theorem dX11_greedy_56 : decode cX11_greedy 56 = .ok (.invokevirtual 206, 3) := by decide +kernel
theorem dX11_greedy_59 : decode cX11_greedy 59 = .ok (.ifCond .eq 15, 3) := by decide +kernel
theorem dX11_greedy_62 : decode cX11_greedy 62 = .ok (.aload_n 0, 1) := by decide +kernel
theorem dX11_greedy_63 : decode cX11_greedy 63 = .ok (.getfield 85, 3) := by decide +kernel
theorem dX11_greedy_66 : decode cX11_greedy 66 = .ok (.getfield 318, 3) := by decide +kernel
theorem dX11_greedy_69 : decode cX11_greedy 69 = .ok (.iload_n 2, 1) := by decide +kernel
theorem dX11_greedy_70 : decode cX11_greedy 70 = .ok (.iaload, 1) := by decide +kernel
theorem dX11_greedy_71 : decode cX11_greedy 71 = .ok (.goto 4, 3) := by decide +kernel
theorem dX11_greedy_74 : decode cX11_greedy 74 = .ok (.iconst (-1), 1) := by decide +kernel
theorem dX11_greedy_75 : decode cX11_greedy 75 = .ok (.ireturn, 1) := by decide +kernel
theorem dX11_moves_0 : decode cX11_moves 0 = .ok (.aload_n 0, 1) := by decide +kernel
theorem dX11_moves_1 : decode cX11_moves 1 = .ok (.getfield 24, 3) := by decide +kernel
theorem dX11_moves_4 : decode cX11_moves 4 = .ok (.invokevirtual 140, 3) := by decide +kernel
theorem dX11_moves_7 : decode cX11_moves 7 = .ok (.ifCond .eq 21, 3) := by decide +kernel
theorem dX11_moves_10 : decode cX11_moves 10 = .ok (.aload_n 0, 1) := by decide +kernel
theorem dX11_moves_11 : decode cX11_moves 11 = .ok (.getfield 85, 3) := by decide +kernel
theorem dX11_moves_14 : decode cX11_moves 14 = .ok (.aload_n 0, 1) := by decide +kernel
theorem dX11_moves_15 : decode cX11_moves 15 = .ok (.getfield 24, 3) := by decide +kernel
theorem dX11_moves_18 : decode cX11_moves 18 = .ok (.aload_n 0, 1) := by decide +kernel
theorem dX11_moves_19 : decode cX11_moves 19 = .ok (.getfield 42, 3) := by decide +kernel
theorem dX11_moves_22 : decode cX11_moves 22 = .ok (.invokevirtual 321, 3) := by decide +kernel
theorem dX11_moves_25 : decode cX11_moves 25 = .ok (.goto 4, 3) := by decide +kernel
theorem dX11_moves_28 : decode cX11_moves 28 = .ok (.iconst (-1), 1) := by decide +kernel
theorem dX11_moves_29 : decode cX11_moves 29 = .ok (.ireturn, 1) := by decide +kernel
theorem dX11_race_0 : decode cX11_race 0 = .ok (.iload_n 2, 1) := by decide +kernel
theorem dX11_race_1 : decode cX11_race 1 = .ok (.iconst 1, 1) := by decide +kernel
theorem dX11_race_2 : decode cX11_race 2 = .ok (.if_icmp .lt 25, 3) := by decide +kernel
theorem dX11_race_5 : decode cX11_race 5 = .ok (.iload_n 2, 1) := by decide +kernel
theorem dX11_race_6 : decode cX11_race 6 = .ok (.sipush 9999, 3) := by decide +kernel
theorem dX11_race_9 : decode cX11_race 9 = .ok (.if_icmp .gt 18, 3) := by decide +kernel
theorem dX11_race_12 : decode cX11_race 12 = .ok (.iload_n 3, 1) := by decide +kernel
theorem dX11_race_13 : decode cX11_race 13 = .ok (.iconst 1, 1) := by decide +kernel
theorem dX11_race_14 : decode cX11_race 14 = .ok (.if_icmp .lt 13, 3) := by decide +kernel
theorem dX11_race_17 : decode cX11_race 17 = .ok (.iload_n 3, 1) := by decide +kernel
theorem dX11_race_18 : decode cX11_race 18 = .ok (.bipush 99, 2) := by decide +kernel
theorem dX11_race_20 : decode cX11_race 20 = .ok (.if_icmp .gt 7, 3) := by decide +kernel
theorem dX11_race_23 : decode cX11_race 23 = .ok (.iconst 1, 1) := by decide +kernel
theorem dX11_race_24 : decode cX11_race 24 = .ok (.goto 4, 3) := by decide +kernel
theorem dX11_race_27 : decode cX11_race 27 = .ok (.iconst 0, 1) := by decide +kernel
theorem dX11_race_28 : decode cX11_race 28 = .ok (.istore 5, 2) := by decide +kernel
theorem dX11_race_30 : decode cX11_race 30 = .ok (.aload_n 0, 1) := by decide +kernel
theorem dX11_race_31 : decode cX11_race 31 = .ok (.getfield 24, 3) := by decide +kernel
theorem dX11_race_34 : decode cX11_race 34 = .ok (.iload_n 1, 1) := by decide +kernel
theorem dX11_race_35 : decode cX11_race 35 = .ok (.invokevirtual 153, 3) := by decide +kernel
theorem dX11_race_38 : decode cX11_race 38 = .ok (.ifCond .eq 19, 3) := by decide +kernel
theorem dX11_race_41 : decode cX11_race 41 = .ok (.iload 5, 2) := by decide +kernel
theorem dX11_race_43 : decode cX11_race 43 = .ok (.ifCond .eq 14, 3) := by decide +kernel
theorem dX11_race_46 : decode cX11_race 46 = .ok (.iload 4, 2) := by decide +kernel
theorem dX11_race_48 : decode cX11_race 48 = .ok (.ifCond .lt 9, 3) := by decide +kernel
theorem dX11_race_51 : decode cX11_race 51 = .ok (.iload 4, 2) := by decide +kernel
theorem dX11_race_53 : decode cX11_race 53 = .ok (.iconst 2, 1) := by decide +kernel
theorem dX11_race_54 : decode cX11_race 54 = .ok (.if_icmp .le 6, 3) := by decide +kernel
theorem dX11_race_57 : decode cX11_race 57 = .ok (.ldc 181, 2) := by decide +kernel
theorem dX11_race_59 : decode cX11_race 59 = .ok (.ireturn, 1) := by decide +kernel
theorem dX11_race_60 : decode cX11_race 60 = .ok (.aload_n 0, 1) := by decide +kernel
theorem dX11_race_61 : decode cX11_race 61 = .ok (.getfield 24, 3) := by decide +kernel
theorem dX11_race_64 : decode cX11_race 64 = .ok (.iload_n 1, 1) := by decide +kernel
theorem dX11_race_65 : decode cX11_race 65 = .ok (.iload_n 2, 1) := by decide +kernel
theorem dX11_race_66 : decode cX11_race 66 = .ok (.iload_n 3, 1) := by decide +kernel
theorem dX11_race_67 : decode cX11_race 67 = .ok (.invokevirtual 324, 3) := by decide +kernel
theorem dX11_race_70 : decode cX11_race 70 = .ok (.istore 6, 2) := by decide +kernel
theorem dX11_race_72 : decode cX11_race 72 = .ok (.aload_n 0, 1) := by decide +kernel
theorem dX11_race_73 : decode cX11_race 73 = .ok (.getfield 24, 3) := by decide +kernel
theorem dX11_race_76 : decode cX11_race 76 = .ok (.iload_n 1, 1) := by decide +kernel
theorem dX11_race_77 : decode cX11_race 77 = .ok (.iload_n 2, 1) := by decide +kernel
theorem dX11_race_78 : decode cX11_race 78 = .ok (.iload_n 3, 1) := by decide +kernel
theorem dX11_race_79 : decode cX11_race 79 = .ok (.invokevirtual 328, 3) := by decide +kernel
theorem dX11_race_82 : decode cX11_race 82 = .ok (.istore 7, 2) := by decide +kernel
theorem dX11_race_84 : decode cX11_race 84 = .ok (.iload 4, 2) := by decide +kernel
theorem dX11_race_86 : decode cX11_race 86 = .ok (.ifCond .ne 6, 3) := by decide +kernel
theorem dX11_race_89 : decode cX11_race 89 = .ok (.iload 6, 2) := by decide +kernel
theorem dX11_race_91 : decode cX11_race 91 = .ok (.ireturn, 1) := by decide +kernel
theorem dX11_race_92 : decode cX11_race 92 = .ok (.iload 4, 2) := by decide +kernel
theorem dX11_race_94 : decode cX11_race 94 = .ok (.iconst 1, 1) := by decide +kernel
theorem dX11_race_95 : decode cX11_race 95 = .ok (.if_icmp .ne 6, 3) := by decide +kernel
theorem dX11_race_98 : decode cX11_race 98 = .ok (.iload 7, 2) := by decide +kernel
theorem dX11_race_100 : decode cX11_race 100 = .ok (.ireturn, 1) := by decide +kernel
theorem dX11_race_101 : decode cX11_race 101 = .ok (.iload 6, 2) := by decide +kernel
theorem dX11_race_103 : decode cX11_race 103 = .ok (.iconst (-1), 1) := by decide +kernel
theorem dX11_race_104 : decode cX11_race 104 = .ok (.if_icmp .eq 9, 3) := by decide +kernel
theorem dX11_race_107 : decode cX11_race 107 = .ok (.iload 7, 2) := by decide +kernel
theorem dX11_race_109 : decode cX11_race 109 = .ok (.iconst (-1), 1) := by decide +kernel
theorem dX11_race_110 : decode cX11_race 110 = .ok (.if_icmp .ne 5, 3) := by decide +kernel
theorem dX11_race_113 : decode cX11_race 113 = .ok (.iconst (-1), 1) := by decide +kernel
theorem dX11_race_114 : decode cX11_race 114 = .ok (.ireturn, 1) := by decide +kernel
theorem dX11_race_115 : decode cX11_race 115 = .ok (.iload 7, 2) := by decide +kernel
theorem dX11_race_117 : decode cX11_race 117 = .ok (.iload 6, 2) := by decide +kernel
theorem dX11_race_119 : decode cX11_race 119 = .ok (.if_icmp .ge 7, 3) := by decide +kernel
theorem dX11_race_122 : decode cX11_race 122 = .ok (.iconst 1, 1) := by decide +kernel
theorem dX11_race_123 : decode cX11_race 123 = .ok (.goto 4, 3) := by decide +kernel
theorem dX11_race_126 : decode cX11_race 126 = .ok (.iconst 0, 1) := by decide +kernel
theorem dX11_race_127 : decode cX11_race 127 = .ok (.ireturn, 1) := by decide +kernel
theorem dX11_ahead_0 : decode cX11_ahead 0 = .ok (.iload_n 1, 1) := by decide +kernel
theorem dX11_ahead_1 : decode cX11_ahead 1 = .ok (.ifCond .lt 23, 3) := by decide +kernel
theorem dX11_ahead_4 : decode cX11_ahead 4 = .ok (.iload_n 1, 1) := by decide +kernel
theorem dX11_ahead_5 : decode cX11_ahead 5 = .ok (.sipush 200, 3) := by decide +kernel
theorem dX11_ahead_8 : decode cX11_ahead 8 = .ok (.if_icmp .gt 16, 3) := by decide +kernel
theorem dX11_ahead_11 : decode cX11_ahead 11 = .ok (.iload_n 2, 1) := by decide +kernel
theorem dX11_ahead_12 : decode cX11_ahead 12 = .ok (.ifCond .lt 12, 3) := by decide +kernel
theorem dX11_ahead_15 : decode cX11_ahead 15 = .ok (.iload_n 2, 1) := by decide +kernel
theorem dX11_ahead_16 : decode cX11_ahead 16 = .ok (.iconst 5, 1) := by decide +kernel
theorem dX11_ahead_17 : decode cX11_ahead 17 = .ok (.if_icmp .gt 7, 3) := by decide +kernel
theorem dX11_ahead_20 : decode cX11_ahead 20 = .ok (.iconst 1, 1) := by decide +kernel
theorem dX11_ahead_21 : decode cX11_ahead 21 = .ok (.goto 4, 3) := by decide +kernel
theorem dX11_ahead_24 : decode cX11_ahead 24 = .ok (.iconst 0, 1) := by decide +kernel
theorem dX11_ahead_25 : decode cX11_ahead 25 = .ok (.istore_n 3, 1) := by decide +kernel
theorem dX11_ahead_26 : decode cX11_ahead 26 = .ok (.aload_n 0, 1) := by decide +kernel
theorem dX11_ahead_27 : decode cX11_ahead 27 = .ok (.getfield 24, 3) := by decide +kernel
theorem dX11_ahead_30 : decode cX11_ahead 30 = .ok (.invokevirtual 140, 3) := by decide +kernel
theorem dX11_ahead_33 : decode cX11_ahead 33 = .ok (.ifCond .eq 22, 3) := by decide +kernel
theorem dX11_ahead_36 : decode cX11_ahead 36 = .ok (.iload_n 3, 1) := by decide +kernel
theorem dX11_ahead_37 : decode cX11_ahead 37 = .ok (.ifCond .eq 18, 3) := by decide +kernel
theorem dX11_ahead_40 : decode cX11_ahead 40 = .ok (.aload_n 0, 1) := by decide +kernel
theorem dX11_ahead_41 : decode cX11_ahead 41 = .ok (.getfield 42, 3) := by decide +kernel
theorem dX11_ahead_44 : decode cX11_ahead 44 = .ok (.getfield 277, 3) := by decide +kernel
theorem dX11_ahead_47 : decode cX11_ahead 47 = .ok (.iload_n 1, 1) := by decide +kernel
theorem dX11_ahead_48 : decode cX11_ahead 48 = .ok (.iadd, 1) := by decide +kernel
theorem dX11_ahead_49 : decode cX11_ahead 49 = .ok (.sipush 9999, 3) := by decide +kernel
theorem dX11_ahead_52 : decode cX11_ahead 52 = .ok (.if_icmp .le 5, 3) := by decide +kernel
theorem dX11_ahead_55 : decode cX11_ahead 55 = .ok (.iconst (-1), 1) := by decide +kernel
theorem dX11_ahead_56 : decode cX11_ahead 56 = .ok (.ireturn, 1) := by decide +kernel
theorem dX11_ahead_57 : decode cX11_ahead 57 = .ok (.iload_n 2, 1) := by decide +kernel
theorem dX11_ahead_58 : decode cX11_ahead 58 = .ok (.iconst 3, 1) := by decide +kernel
theorem dX11_ahead_59 : decode cX11_ahead 59 = .ok (.if_icmp .lt 18, 3) := by decide +kernel
theorem dX11_ahead_62 : decode cX11_ahead 62 = .ok (.aload_n 0, 1) := by decide +kernel
theorem dX11_ahead_63 : decode cX11_ahead 63 = .ok (.getfield 24, 3) := by decide +kernel
theorem dX11_ahead_66 : decode cX11_ahead 66 = .ok (.iload_n 2, 1) := by decide +kernel
theorem dX11_ahead_67 : decode cX11_ahead 67 = .ok (.iconst 3, 1) := by decide +kernel
theorem dX11_ahead_68 : decode cX11_ahead 68 = .ok (.isub, 1) := by decide +kernel
theorem dX11_ahead_69 : decode cX11_ahead 69 = .ok (.invokevirtual 153, 3) := by decide +kernel
theorem dX11_ahead_72 : decode cX11_ahead 72 = .ok (.ifCond .ne 5, 3) := by decide +kernel
theorem dX11_ahead_75 : decode cX11_ahead 75 = .ok (.iconst (-1), 1) := by decide +kernel
theorem dX11_ahead_76 : decode cX11_ahead 76 = .ok (.ireturn, 1) := by decide +kernel
theorem dX11_ahead_77 : decode cX11_ahead 77 = .ok (.aload_n 0, 1) := by decide +kernel
theorem dX11_ahead_78 : decode cX11_ahead 78 = .ok (.getfield 46, 3) := by decide +kernel
theorem dX11_ahead_81 : decode cX11_ahead 81 = .ok (.aload_n 0, 1) := by decide +kernel
theorem dX11_ahead_82 : decode cX11_ahead 82 = .ok (.getfield 42, 3) := by decide +kernel
theorem dX11_ahead_85 : decode cX11_ahead 85 = .ok (.invokevirtual 331, 3) := by decide +kernel
theorem dX11_ahead_88 : decode cX11_ahead 88 = .ok (.aload_n 0, 1) := by decide +kernel
theorem dX11_ahead_89 : decode cX11_ahead 89 = .ok (.getfield 80, 3) := by decide +kernel
theorem dX11_ahead_92 : decode cX11_ahead 92 = .ok (.aload_n 0, 1) := by decide +kernel
theorem dX11_ahead_93 : decode cX11_ahead 93 = .ok (.getfield 24, 3) := by decide +kernel
theorem dX11_ahead_96 : decode cX11_ahead 96 = .ok (.aload_n 0, 1) := by decide +kernel
theorem dX11_ahead_97 : decode cX11_ahead 97 = .ok (.getfield 46, 3) := by decide +kernel
theorem dX11_ahead_100 : decode cX11_ahead 100 = .ok (.iload_n 1, 1) := by decide +kernel
theorem dX11_ahead_101 : decode cX11_ahead 101 = .ok (.invokevirtual 335, 3) := by decide +kernel
theorem dX11_ahead_104 : decode cX11_ahead 104 = .ok (.pop, 1) := by decide +kernel
theorem dX11_ahead_105 : decode cX11_ahead 105 = .ok (.iload_n 2, 1) := by decide +kernel
theorem dX11_ahead_106 : decode cX11_ahead 106 = .ok (.tableswitch 54 0 2 #[26, 34, 46], 26) := by decide +kernel
theorem dX11_ahead_132 : decode cX11_ahead 132 = .ok (.aload_n 0, 1) := by decide +kernel
theorem dX11_ahead_133 : decode cX11_ahead 133 = .ok (.getfield 46, 3) := by decide +kernel
theorem dX11_ahead_136 : decode cX11_ahead 136 = .ok (.getfield 338, 3) := by decide +kernel
theorem dX11_ahead_139 : decode cX11_ahead 139 = .ok (.ireturn, 1) := by decide +kernel
theorem dX11_ahead_140 : decode cX11_ahead 140 = .ok (.aload_n 0, 1) := by decide +kernel
theorem dX11_ahead_141 : decode cX11_ahead 141 = .ok (.getfield 46, 3) := by decide +kernel
theorem dX11_ahead_144 : decode cX11_ahead 144 = .ok (.aload_n 0, 1) := by decide +kernel
theorem dX11_ahead_145 : decode cX11_ahead 145 = .ok (.getfield 24, 3) := by decide +kernel
theorem dX11_ahead_148 : decode cX11_ahead 148 = .ok (.invokevirtual 341, 3) := by decide +kernel
theorem dX11_ahead_151 : decode cX11_ahead 151 = .ok (.ireturn, 1) := by decide +kernel
theorem dX11_ahead_152 : decode cX11_ahead 152 = .ok (.aload_n 0, 1) := by decide +kernel
theorem dX11_ahead_153 : decode cX11_ahead 153 = .ok (.getfield 46, 3) := by decide +kernel
theorem dX11_ahead_156 : decode cX11_ahead 156 = .ok (.getfield 344, 3) := by decide +kernel
theorem dX11_ahead_159 : decode cX11_ahead 159 = .ok (.ireturn, 1) := by decide +kernel
theorem dX11_ahead_160 : decode cX11_ahead 160 = .ok (.aload_n 0, 1) := by decide +kernel
theorem dX11_ahead_161 : decode cX11_ahead 161 = .ok (.getfield 46, 3) := by decide +kernel
theorem dX11_ahead_164 : decode cX11_ahead 164 = .ok (.getfield 347, 3) := by decide +kernel
theorem dX11_ahead_167 : decode cX11_ahead 167 = .ok (.iload_n 2, 1) := by decide +kernel
theorem dX11_ahead_168 : decode cX11_ahead 168 = .ok (.iconst 3, 1) := by decide +kernel
theorem dX11_ahead_169 : decode cX11_ahead 169 = .ok (.isub, 1) := by decide +kernel
theorem dX11_ahead_170 : decode cX11_ahead 170 = .ok (.iaload, 1) := by decide +kernel
theorem dX11_ahead_171 : decode cX11_ahead 171 = .ok (.ireturn, 1) := by decide +kernel
theorem dX11_bound_0 : decode cX11_bound 0 = .ok (.aload_n 0, 1) := by decide +kernel
theorem dX11_bound_1 : decode cX11_bound 1 = .ok (.getfield 24, 3) := by decide +kernel
theorem dX11_bound_4 : decode cX11_bound 4 = .ok (.iload_n 1, 1) := by decide +kernel
theorem dX11_bound_5 : decode cX11_bound 5 = .ok (.invokevirtual 153, 3) := by decide +kernel
theorem dX11_bound_8 : decode cX11_bound 8 = .ok (.ifCond .eq 29, 3) := by decide +kernel
theorem dX11_bound_11 : decode cX11_bound 11 = .ok (.iload_n 2, 1) := by decide +kernel
theorem dX11_bound_12 : decode cX11_bound 12 = .ok (.iconst 1, 1) := by decide +kernel
theorem dX11_bound_13 : decode cX11_bound 13 = .ok (.if_icmp .lt 24, 3) := by decide +kernel
theorem dX11_bound_16 : decode cX11_bound 16 = .ok (.iload_n 2, 1) := by decide +kernel
theorem dX11_bound_17 : decode cX11_bound 17 = .ok (.bipush 100, 2) := by decide +kernel
theorem dX11_bound_19 : decode cX11_bound 19 = .ok (.if_icmp .gt 18, 3) := by decide +kernel
theorem dX11_bound_22 : decode cX11_bound 22 = .ok (.aload_n 0, 1) := by decide +kernel
theorem dX11_bound_23 : decode cX11_bound 23 = .ok (.getfield 42, 3) := by decide +kernel
theorem dX11_bound_26 : decode cX11_bound 26 = .ok (.getfield 277, 3) := by decide +kernel
theorem dX11_bound_29 : decode cX11_bound 29 = .ok (.iload_n 2, 1) := by decide +kernel
theorem dX11_bound_30 : decode cX11_bound 30 = .ok (.iadd, 1) := by decide +kernel
theorem dX11_bound_31 : decode cX11_bound 31 = .ok (.sipush 9999, 3) := by decide +kernel
theorem dX11_bound_34 : decode cX11_bound 34 = .ok (.if_icmp .le 5, 3) := by decide +kernel
theorem dX11_bound_37 : decode cX11_bound 37 = .ok (.iconst (-1), 1) := by decide +kernel
theorem dX11_bound_38 : decode cX11_bound 38 = .ok (.ireturn, 1) := by decide +kernel
theorem dX11_bound_39 : decode cX11_bound 39 = .ok (.iconst 0, 1) := by decide +kernel
theorem dX11_bound_40 : decode cX11_bound 40 = .ok (.istore_n 3, 1) := by decide +kernel
theorem dX11_bound_41 : decode cX11_bound 41 = .ok (.iload_n 3, 1) := by decide +kernel
theorem dX11_bound_42 : decode cX11_bound 42 = .ok (.aload_n 0, 1) := by decide +kernel
theorem dX11_bound_43 : decode cX11_bound 43 = .ok (.getfield 24, 3) := by decide +kernel
theorem dX11_bound_46 : decode cX11_bound 46 = .ok (.getfield 350, 3) := by decide +kernel
theorem dX11_bound_49 : decode cX11_bound 49 = .ok (.iload_n 1, 1) := by decide +kernel
theorem dX11_bound_50 : decode cX11_bound 50 = .ok (.iaload, 1) := by decide +kernel
theorem dX11_bound_51 : decode cX11_bound 51 = .ok (.if_icmp .ge 69, 3) := by decide +kernel
theorem dX11_bound_54 : decode cX11_bound 54 = .ok (.aload_n 0, 1) := by decide +kernel
theorem dX11_bound_55 : decode cX11_bound 55 = .ok (.getfield 46, 3) := by decide +kernel
theorem dX11_bound_58 : decode cX11_bound 58 = .ok (.aload_n 0, 1) := by decide +kernel
theorem dX11_bound_59 : decode cX11_bound 59 = .ok (.getfield 42, 3) := by decide +kernel
theorem dX11_bound_62 : decode cX11_bound 62 = .ok (.invokevirtual 331, 3) := by decide +kernel
theorem dX11_bound_65 : decode cX11_bound 65 = .ok (.aload_n 0, 1) := by decide +kernel
theorem dX11_bound_66 : decode cX11_bound 66 = .ok (.getfield 46, 3) := by decide +kernel
theorem dX11_bound_69 : decode cX11_bound 69 = .ok (.lconst 0, 1) := by decide +kernel
theorem dX11_bound_70 : decode cX11_bound 70 = .ok (.iload_n 1, 1) := by decide +kernel
theorem dX11_bound_71 : decode cX11_bound 71 = .ok (.iconst 0, 1) := by decide +kernel
theorem dX11_bound_72 : decode cX11_bound 72 = .ok (.iload_n 3, 1) := by decide +kernel
theorem dX11_bound_73 : decode cX11_bound 73 = .ok (.invokevirtual 353, 3) := by decide +kernel
theorem dX11_bound_76 : decode cX11_bound 76 = .ok (.pop, 1) := by decide +kernel
theorem dX11_bound_77 : decode cX11_bound 77 = .ok (.aload_n 0, 1) := by decide +kernel
theorem dX11_bound_78 : decode cX11_bound 78 = .ok (.getfield 80, 3) := by decide +kernel
theorem dX11_bound_81 : decode cX11_bound 81 = .ok (.aload_n 0, 1) := by decide +kernel
theorem dX11_bound_82 : decode cX11_bound 82 = .ok (.getfield 24, 3) := by decide +kernel
theorem dX11_bound_85 : decode cX11_bound 85 = .ok (.aload_n 0, 1) := by decide +kernel
theorem dX11_bound_86 : decode cX11_bound 86 = .ok (.getfield 46, 3) := by decide +kernel
theorem dX11_bound_89 : decode cX11_bound 89 = .ok (.iload_n 2, 1) := by decide +kernel
theorem dX11_bound_90 : decode cX11_bound 90 = .ok (.invokevirtual 335, 3) := by decide +kernel
theorem dX11_bound_93 : decode cX11_bound 93 = .ok (.pop, 1) := by decide +kernel
theorem dX11_bound_94 : decode cX11_bound 94 = .ok (.aload_n 0, 1) := by decide +kernel
theorem dX11_bound_95 : decode cX11_bound 95 = .ok (.getfield 46, 3) := by decide +kernel
theorem dX11_bound_98 : decode cX11_bound 98 = .ok (.aload_n 0, 1) := by decide +kernel
theorem dX11_bound_99 : decode cX11_bound 99 = .ok (.getfield 24, 3) := by decide +kernel
theorem dX11_bound_102 : decode cX11_bound 102 = .ok (.aload_n 0, 1) := by decide +kernel
theorem dX11_bound_103 : decode cX11_bound 103 = .ok (.getfield 42, 3) := by decide +kernel
theorem dX11_bound_106 : decode cX11_bound 106 = .ok (.invokevirtual 357, 3) := by decide +kernel
theorem dX11_bound_109 : decode cX11_bound 109 = .ok (.ifCond .eq 5, 3) := by decide +kernel
theorem dX11_bound_112 : decode cX11_bound 112 = .ok (.iload_n 3, 1) := by decide +kernel
theorem dX11_bound_113 : decode cX11_bound 113 = .ok (.ireturn, 1) := by decide +kernel
theorem dX11_bound_114 : decode cX11_bound 114 = .ok (.iinc 3 1, 3) := by decide +kernel
theorem dX11_bound_117 : decode cX11_bound 117 = .ok (.goto (-76), 3) := by decide +kernel
theorem dX11_bound_120 : decode cX11_bound 120 = .ok (.iconst (-1), 1) := by decide +kernel
theorem dX11_bound_121 : decode cX11_bound 121 = .ok (.ireturn, 1) := by decide +kernel
theorem dX11_odds_0 : decode cX11_odds 0 = .ok (.aload_n 0, 1) := by decide +kernel
theorem dX11_odds_1 : decode cX11_odds 1 = .ok (.getfield 24, 3) := by decide +kernel
theorem dX11_odds_4 : decode cX11_odds 4 = .ok (.invokevirtual 140, 3) := by decide +kernel
theorem dX11_odds_7 : decode cX11_odds 7 = .ok (.ifCond .eq 32, 3) := by decide +kernel
theorem dX11_odds_10 : decode cX11_odds 10 = .ok (.iload_n 1, 1) := by decide +kernel
theorem dX11_odds_11 : decode cX11_odds 11 = .ok (.ifCond .lt 28, 3) := by decide +kernel
theorem dX11_odds_14 : decode cX11_odds 14 = .ok (.iload_n 1, 1) := by decide +kernel
theorem dX11_odds_15 : decode cX11_odds 15 = .ok (.bipush 100, 2) := by decide +kernel
theorem dX11_odds_17 : decode cX11_odds 17 = .ok (.if_icmp .gt 22, 3) := by decide +kernel
theorem dX11_odds_20 : decode cX11_odds 20 = .ok (.aload_n 0, 1) := by decide +kernel
theorem dX11_odds_21 : decode cX11_odds 21 = .ok (.getfield 85, 3) := by decide +kernel
theorem dX11_odds_24 : decode cX11_odds 24 = .ok (.aload_n 0, 1) := by decide +kernel
theorem dX11_odds_25 : decode cX11_odds 25 = .ok (.getfield 24, 3) := by decide +kernel
theorem dX11_odds_28 : decode cX11_odds 28 = .ok (.aload_n 0, 1) := by decide +kernel
theorem dX11_odds_29 : decode cX11_odds 29 = .ok (.getfield 42, 3) := by decide +kernel
theorem dX11_odds_32 : decode cX11_odds 32 = .ok (.iload_n 1, 1) := by decide +kernel
theorem dX11_odds_33 : decode cX11_odds 33 = .ok (.invokevirtual 360, 3) := by decide +kernel
theorem dX11_odds_36 : decode cX11_odds 36 = .ok (.goto 4, 3) := by decide +kernel
theorem dX11_odds_39 : decode cX11_odds 39 = .ok (.iconst (-1), 1) := by decide +kernel
theorem dX11_odds_40 : decode cX11_odds 40 = .ok (.ireturn, 1) := by decide +kernel
theorem dX11_step_0 : decode cX11_step 0 = .ok (.iload_n 1, 1) := by decide +kernel
theorem dX11_step_1 : decode cX11_step 1 = .ok (.ifCond .lt 28, 3) := by decide +kernel
theorem dX11_step_4 : decode cX11_step 4 = .ok (.iload_n 1, 1) := by decide +kernel
theorem dX11_step_5 : decode cX11_step 5 = .ok (.aload_n 0, 1) := by decide +kernel
theorem dX11_step_6 : decode cX11_step 6 = .ok (.getfield 134, 3) := by decide +kernel
theorem dX11_step_9 : decode cX11_step 9 = .ok (.if_icmp .ge 20, 3) := by decide +kernel
theorem dX11_step_12 : decode cX11_step 12 = .ok (.iload_n 2, 1) := by decide +kernel
theorem dX11_step_13 : decode cX11_step 13 = .ok (.ifCond .lt 16, 3) := by decide +kernel
theorem dX11_step_16 : decode cX11_step 16 = .ok (.iload_n 2, 1) := by decide +kernel
theorem dX11_step_17 : decode cX11_step 17 = .ok (.aload_n 0, 1) := by decide +kernel
theorem dX11_step_18 : decode cX11_step 18 = .ok (.getfield 35, 3) := by decide +kernel
theorem dX11_step_21 : decode cX11_step 21 = .ok (.iload_n 1, 1) := by decide +kernel
theorem dX11_step_22 : decode cX11_step 22 = .ok (.aaload, 1) := by decide +kernel
theorem dX11_step_23 : decode cX11_step 23 = .ok (.getfield 363, 3) := by decide +kernel
theorem dX11_step_26 : decode cX11_step 26 = .ok (.if_icmp .lt 6, 3) := by decide +kernel
theorem dX11_step_29 : decode cX11_step 29 = .ok (.ldc 181, 2) := by decide +kernel
theorem dX11_step_31 : decode cX11_step 31 = .ok (.ireturn, 1) := by decide +kernel
theorem dX11_step_32 : decode cX11_step 32 = .ok (.aload_n 0, 1) := by decide +kernel
theorem dX11_step_33 : decode cX11_step 33 = .ok (.getfield 35, 3) := by decide +kernel
theorem dX11_step_36 : decode cX11_step 36 = .ok (.iload_n 1, 1) := by decide +kernel
theorem dX11_step_37 : decode cX11_step 37 = .ok (.aaload, 1) := by decide +kernel
theorem dX11_step_38 : decode cX11_step 38 = .ok (.getfield 366, 3) := by decide +kernel
theorem dX11_step_41 : decode cX11_step 41 = .ok (.iload_n 2, 1) := by decide +kernel
theorem dX11_step_42 : decode cX11_step 42 = .ok (.aaload, 1) := by decide +kernel
theorem dX11_step_43 : decode cX11_step 43 = .ok (.astore 4, 2) := by decide +kernel
theorem dX11_step_45 : decode cX11_step 45 = .ok (.iload_n 3, 1) := by decide +kernel
theorem dX11_step_46 : decode cX11_step 46 = .ok (.ifCond .ne 9, 3) := by decide +kernel
theorem dX11_step_49 : decode cX11_step 49 = .ok (.aload 4, 2) := by decide +kernel
theorem dX11_step_51 : decode cX11_step 51 = .ok (.getfield 370, 3) := by decide +kernel
theorem dX11_step_54 : decode cX11_step 54 = .ok (.ireturn, 1) := by decide +kernel
theorem dX11_step_55 : decode cX11_step 55 = .ok (.iload_n 3, 1) := by decide +kernel
theorem dX11_step_56 : decode cX11_step 56 = .ok (.iconst 1, 1) := by decide +kernel
theorem dX11_step_57 : decode cX11_step 57 = .ok (.if_icmp .lt 13, 3) := by decide +kernel
theorem dX11_step_60 : decode cX11_step 60 = .ok (.iload_n 3, 1) := by decide +kernel
theorem dX11_step_61 : decode cX11_step 61 = .ok (.aload 4, 2) := by decide +kernel
theorem dX11_step_63 : decode cX11_step 63 = .ok (.getfield 373, 3) := by decide +kernel
theorem dX11_step_66 : decode cX11_step 66 = .ok (.arraylength, 1) := by decide +kernel
theorem dX11_step_67 : decode cX11_step 67 = .ok (.if_icmp .le 6, 3) := by decide +kernel
theorem dX11_step_70 : decode cX11_step 70 = .ok (.ldc 181, 2) := by decide +kernel
theorem dX11_step_72 : decode cX11_step 72 = .ok (.ireturn, 1) := by decide +kernel
theorem dX11_step_73 : decode cX11_step 73 = .ok (.iload_n 3, 1) := by decide +kernel
theorem dX11_step_74 : decode cX11_step 74 = .ok (.aload 4, 2) := by decide +kernel
theorem dX11_step_76 : decode cX11_step 76 = .ok (.invokevirtual 376, 3) := by decide +kernel
theorem dX11_step_79 : decode cX11_step 79 = .ok (.if_icmp .gt 15, 3) := by decide +kernel
theorem dX11_step_82 : decode cX11_step 82 = .ok (.aload 4, 2) := by decide +kernel
theorem dX11_step_84 : decode cX11_step 84 = .ok (.getfield 373, 3) := by decide +kernel
theorem dX11_step_87 : decode cX11_step 87 = .ok (.iload_n 3, 1) := by decide +kernel
theorem dX11_step_88 : decode cX11_step 88 = .ok (.iconst 1, 1) := by decide +kernel
theorem dX11_step_89 : decode cX11_step 89 = .ok (.isub, 1) := by decide +kernel
theorem dX11_step_90 : decode cX11_step 90 = .ok (.iaload, 1) := by decide +kernel
theorem dX11_step_91 : decode cX11_step 91 = .ok (.goto 4, 3) := by decide +kernel
theorem dX11_step_94 : decode cX11_step 94 = .ok (.iconst (-1), 1) := by decide +kernel
theorem dX11_step_95 : decode cX11_step 95 = .ok (.ireturn, 1) := by decide +kernel
theorem dX11_run_0 : decode cX11_run 0 = .ok (.aload_n 0, 1) := by decide +kernel
theorem dX11_run_1 : decode cX11_run 1 = .ok (.getfield 24, 3) := by decide +kernel
theorem dX11_run_4 : decode cX11_run 4 = .ok (.invokevirtual 140, 3) := by decide +kernel
theorem dX11_run_7 : decode cX11_run 7 = .ok (.ifCond .eq 24, 3) := by decide +kernel
theorem dX11_run_10 : decode cX11_run 10 = .ok (.iload_n 1, 1) := by decide +kernel
theorem dX11_run_11 : decode cX11_run 11 = .ok (.ifCond .lt 20, 3) := by decide +kernel
theorem dX11_run_14 : decode cX11_run 14 = .ok (.iload_n 1, 1) := by decide +kernel
theorem dX11_run_15 : decode cX11_run 15 = .ok (.aload_n 0, 1) := by decide +kernel
theorem dX11_run_16 : decode cX11_run 16 = .ok (.getfield 134, 3) := by decide +kernel
theorem dX11_run_19 : decode cX11_run 19 = .ok (.if_icmp .ge 12, 3) := by decide +kernel
theorem dX11_run_22 : decode cX11_run 22 = .ok (.iload_n 2, 1) := by decide +kernel
theorem dX11_run_23 : decode cX11_run 23 = .ok (.ifCond .lt 8, 3) := by decide +kernel
theorem dX11_run_26 : decode cX11_run 26 = .ok (.iload_n 2, 1) := by decide +kernel
theorem dX11_run_27 : decode cX11_run 27 = .ok (.iconst 1, 1) := by decide +kernel
theorem dX11_run_28 : decode cX11_run 28 = .ok (.if_icmp .le 6, 3) := by decide +kernel
theorem dX11_run_31 : decode cX11_run 31 = .ok (.ldc 181, 2) := by decide +kernel
theorem dX11_run_33 : decode cX11_run 33 = .ok (.ireturn, 1) := by decide +kernel
theorem dX11_run_34 : decode cX11_run 34 = .ok (.aload_n 0, 1) := by decide +kernel
theorem dX11_run_35 : decode cX11_run 35 = .ok (.getfield 46, 3) := by decide +kernel
theorem dX11_run_38 : decode cX11_run 38 = .ok (.aload_n 0, 1) := by decide +kernel
theorem dX11_run_39 : decode cX11_run 39 = .ok (.getfield 42, 3) := by decide +kernel
theorem dX11_run_42 : decode cX11_run 42 = .ok (.invokevirtual 331, 3) := by decide +kernel
theorem dX11_run_45 : decode cX11_run 45 = .ok (.aload_n 0, 1) := by decide +kernel
theorem dX11_run_46 : decode cX11_run 46 = .ok (.aload_n 0, 1) := by decide +kernel
theorem dX11_run_47 : decode cX11_run 47 = .ok (.getfield 35, 3) := by decide +kernel
theorem dX11_run_50 : decode cX11_run 50 = .ok (.iload_n 1, 1) := by decide +kernel
theorem dX11_run_51 : decode cX11_run 51 = .ok (.aaload, 1) := by decide +kernel
theorem dX11_run_52 : decode cX11_run 52 = .ok (.invokevirtual 379, 3) := by decide +kernel
theorem dX11_run_55 : decode cX11_run 55 = .ok (.istore_n 3, 1) := by decide +kernel
theorem dX11_run_56 : decode cX11_run 56 = .ok (.iload_n 2, 1) := by decide +kernel
theorem dX11_run_57 : decode cX11_run 57 = .ok (.iconst 1, 1) := by decide +kernel
theorem dX11_run_58 : decode cX11_run 58 = .ok (.if_icmp .ne 11, 3) := by decide +kernel
theorem dX11_run_61 : decode cX11_run 61 = .ok (.aload_n 0, 1) := by decide +kernel
theorem dX11_run_62 : decode cX11_run 62 = .ok (.getfield 46, 3) := by decide +kernel
theorem dX11_run_65 : decode cX11_run 65 = .ok (.getfield 338, 3) := by decide +kernel
theorem dX11_run_68 : decode cX11_run 68 = .ok (.ireturn, 1) := by decide +kernel
theorem dX11_run_69 : decode cX11_run 69 = .ok (.iload_n 3, 1) := by decide +kernel
theorem dX11_run_70 : decode cX11_run 70 = .ok (.aload_n 0, 1) := by decide +kernel
theorem dX11_run_71 : decode cX11_run 71 = .ok (.getfield 35, 3) := by decide +kernel
theorem dX11_run_74 : decode cX11_run 74 = .ok (.iload_n 1, 1) := by decide +kernel
theorem dX11_run_75 : decode cX11_run 75 = .ok (.aaload, 1) := by decide +kernel
theorem dX11_run_76 : decode cX11_run 76 = .ok (.getfield 363, 3) := by decide +kernel
theorem dX11_run_79 : decode cX11_run 79 = .ok (.if_icmp .ne 7, 3) := by decide +kernel
theorem dX11_run_82 : decode cX11_run 82 = .ok (.iconst (-1), 1) := by decide +kernel
theorem dX11_run_83 : decode cX11_run 83 = .ok (.goto 4, 3) := by decide +kernel
theorem dX11_run_86 : decode cX11_run 86 = .ok (.iload_n 3, 1) := by decide +kernel
theorem dX11_run_87 : decode cX11_run 87 = .ok (.ireturn, 1) := by decide +kernel
theorem dX11_perform_0 : decode cX11_perform 0 = .ok (.aload_n 0, 1) := by decide +kernel
theorem dX11_perform_1 : decode cX11_perform 1 = .ok (.getfield 24, 3) := by decide +kernel
theorem dX11_perform_4 : decode cX11_perform 4 = .ok (.invokevirtual 140, 3) := by decide +kernel
theorem dX11_perform_7 : decode cX11_perform 7 = .ok (.ifCond .eq 15, 3) := by decide +kernel
theorem dX11_perform_10 : decode cX11_perform 10 = .ok (.iload_n 1, 1) := by decide +kernel
theorem dX11_perform_11 : decode cX11_perform 11 = .ok (.ifCond .lt 11, 3) := by decide +kernel
theorem dX11_perform_14 : decode cX11_perform 14 = .ok (.iload_n 1, 1) := by decide +kernel
theorem dX11_perform_15 : decode cX11_perform 15 = .ok (.aload_n 0, 1) := by decide +kernel
theorem dX11_perform_16 : decode cX11_perform 16 = .ok (.getfield 134, 3) := by decide +kernel
theorem dX11_perform_19 : decode cX11_perform 19 = .ok (.if_icmp .lt 5, 3) := by decide +kernel
theorem dX11_perform_22 : decode cX11_perform 22 = .ok (.iconst (-1), 1) := by decide +kernel
theorem dX11_perform_23 : decode cX11_perform 23 = .ok (.ireturn, 1) := by decide +kernel
theorem dX11_perform_24 : decode cX11_perform 24 = .ok (.aload_n 0, 1) := by decide +kernel
theorem dX11_perform_25 : decode cX11_perform 25 = .ok (.getfield 35, 3) := by decide +kernel
theorem dX11_perform_28 : decode cX11_perform 28 = .ok (.iload_n 1, 1) := by decide +kernel
theorem dX11_perform_29 : decode cX11_perform 29 = .ok (.aaload, 1) := by decide +kernel
theorem dX11_perform_30 : decode cX11_perform 30 = .ok (.astore_n 2, 1) := by decide +kernel
theorem dX11_perform_31 : decode cX11_perform 31 = .ok (.iconst 0, 1) := by decide +kernel
theorem dX11_perform_32 : decode cX11_perform 32 = .ok (.istore_n 3, 1) := by decide +kernel
theorem dX11_perform_33 : decode cX11_perform 33 = .ok (.iload_n 3, 1) := by decide +kernel
theorem dX11_perform_34 : decode cX11_perform 34 = .ok (.aload_n 2, 1) := by decide +kernel
theorem dX11_perform_35 : decode cX11_perform 35 = .ok (.getfield 363, 3) := by decide +kernel
theorem dX11_perform_38 : decode cX11_perform 38 = .ok (.if_icmp .ge 47, 3) := by decide +kernel
theorem dX11_perform_41 : decode cX11_perform 41 = .ok (.aload_n 0, 1) := by decide +kernel
theorem dX11_perform_42 : decode cX11_perform 42 = .ok (.getfield 72, 3) := by decide +kernel
theorem dX11_perform_45 : decode cX11_perform 45 = .ok (.aload_n 0, 1) := by decide +kernel
theorem dX11_perform_46 : decode cX11_perform 46 = .ok (.getfield 24, 3) := by decide +kernel
theorem dX11_perform_49 : decode cX11_perform 49 = .ok (.aload_n 0, 1) := by decide +kernel
theorem dX11_perform_50 : decode cX11_perform 50 = .ok (.getfield 42, 3) := by decide +kernel
theorem dX11_perform_53 : decode cX11_perform 53 = .ok (.aload_n 2, 1) := by decide +kernel
theorem dX11_perform_54 : decode cX11_perform 54 = .ok (.getfield 366, 3) := by decide +kernel
theorem dX11_perform_57 : decode cX11_perform 57 = .ok (.iload_n 3, 1) := by decide +kernel
theorem dX11_perform_58 : decode cX11_perform 58 = .ok (.aaload, 1) := by decide +kernel
theorem dX11_perform_59 : decode cX11_perform 59 = .ok (.invokevirtual 382, 3) := by decide +kernel
theorem dX11_perform_62 : decode cX11_perform 62 = .ok (.iconst (-1), 1) := by decide +kernel
theorem dX11_perform_63 : decode cX11_perform 63 = .ok (.if_icmp .eq 5, 3) := by decide +kernel
theorem dX11_perform_66 : decode cX11_perform 66 = .ok (.iload_n 3, 1) := by decide +kernel
theorem dX11_perform_67 : decode cX11_perform 67 = .ok (.ireturn, 1) := by decide +kernel
theorem dX11_perform_68 : decode cX11_perform 68 = .ok (.aload_n 0, 1) := by decide +kernel
theorem dX11_perform_69 : decode cX11_perform 69 = .ok (.aload_n 2, 1) := by decide +kernel
theorem dX11_perform_70 : decode cX11_perform 70 = .ok (.getfield 366, 3) := by decide +kernel
theorem dX11_perform_73 : decode cX11_perform 73 = .ok (.iload_n 3, 1) := by decide +kernel
theorem dX11_perform_74 : decode cX11_perform 74 = .ok (.aaload, 1) := by decide +kernel
theorem dX11_perform_75 : decode cX11_perform 75 = .ok (.invokevirtual 386, 3) := by decide +kernel
theorem dX11_perform_78 : decode cX11_perform 78 = .ok (.pop, 1) := by decide +kernel
theorem dX11_perform_79 : decode cX11_perform 79 = .ok (.iinc 3 1, 3) := by decide +kernel
theorem dX11_perform_82 : decode cX11_perform 82 = .ok (.goto (-49), 3) := by decide +kernel
theorem dX11_perform_85 : decode cX11_perform 85 = .ok (.aload_n 2, 1) := by decide +kernel
theorem dX11_perform_86 : decode cX11_perform 86 = .ok (.getfield 363, 3) := by decide +kernel
theorem dX11_perform_89 : decode cX11_perform 89 = .ok (.ireturn, 1) := by decide +kernel
theorem dX11_all_0 : decode cX11_all 0 = .ok (.aload_n 0, 1) := by decide +kernel
theorem dX11_all_1 : decode cX11_all 1 = .ok (.getfield 24, 3) := by decide +kernel
theorem dX11_all_4 : decode cX11_all 4 = .ok (.invokevirtual 140, 3) := by decide +kernel
theorem dX11_all_7 : decode cX11_all 7 = .ok (.ifCond .ne 6, 3) := by decide +kernel
theorem dX11_all_10 : decode cX11_all 10 = .ok (.ldc 181, 2) := by decide +kernel
theorem dX11_all_12 : decode cX11_all 12 = .ok (.ireturn, 1) := by decide +kernel
theorem dX11_all_13 : decode cX11_all 13 = .ok (.iload_n 1, 1) := by decide +kernel
theorem dX11_all_14 : decode cX11_all 14 = .ok (.tableswitch 140 0 9 #[54, 62, 70, 78, 90, 98, 106, 118, 130, 135], 54) := by decide +kernel
theorem dX11_all_68 : decode cX11_all 68 = .ok (.aload_n 0, 1) := by decide +kernel
theorem dX11_all_69 : decode cX11_all 69 = .ok (.getfield 42, 3) := by decide +kernel
theorem dX11_all_72 : decode cX11_all 72 = .ok (.getfield 277, 3) := by decide +kernel
theorem dX11_all_75 : decode cX11_all 75 = .ok (.ireturn, 1) := by decide +kernel
theorem dX11_all_76 : decode cX11_all 76 = .ok (.aload_n 0, 1) := by decide +kernel
theorem dX11_all_77 : decode cX11_all 77 = .ok (.getfield 42, 3) := by decide +kernel
theorem dX11_all_80 : decode cX11_all 80 = .ok (.getfield 344, 3) := by decide +kernel
theorem dX11_all_83 : decode cX11_all 83 = .ok (.ireturn, 1) := by decide +kernel
theorem dX11_all_84 : decode cX11_all 84 = .ok (.aload_n 0, 1) := by decide +kernel
theorem dX11_all_85 : decode cX11_all 85 = .ok (.getfield 42, 3) := by decide +kernel
theorem dX11_all_88 : decode cX11_all 88 = .ok (.getfield 338, 3) := by decide +kernel
theorem dX11_all_91 : decode cX11_all 91 = .ok (.ireturn, 1) := by decide +kernel
theorem dX11_all_92 : decode cX11_all 92 = .ok (.aload_n 0, 1) := by decide +kernel
theorem dX11_all_93 : decode cX11_all 93 = .ok (.getfield 42, 3) := by decide +kernel
theorem dX11_all_96 : decode cX11_all 96 = .ok (.aload_n 0, 1) := by decide +kernel
theorem dX11_all_97 : decode cX11_all 97 = .ok (.getfield 24, 3) := by decide +kernel
theorem dX11_all_100 : decode cX11_all 100 = .ok (.invokevirtual 341, 3) := by decide +kernel
theorem dX11_all_103 : decode cX11_all 103 = .ok (.ireturn, 1) := by decide +kernel
theorem dX11_all_104 : decode cX11_all 104 = .ok (.aload_n 0, 1) := by decide +kernel
theorem dX11_all_105 : decode cX11_all 105 = .ok (.getfield 42, 3) := by decide +kernel
theorem dX11_all_108 : decode cX11_all 108 = .ok (.getfield 185, 3) := by decide +kernel
theorem dX11_all_111 : decode cX11_all 111 = .ok (.ireturn, 1) := by decide +kernel
theorem dX11_all_112 : decode cX11_all 112 = .ok (.aload_n 0, 1) := by decide +kernel
theorem dX11_all_113 : decode cX11_all 113 = .ok (.getfield 42, 3) := by decide +kernel
theorem dX11_all_116 : decode cX11_all 116 = .ok (.getfield 227, 3) := by decide +kernel
theorem dX11_all_119 : decode cX11_all 119 = .ok (.ireturn, 1) := by decide +kernel
theorem dX11_all_120 : decode cX11_all 120 = .ok (.aload_n 0, 1) := by decide +kernel
theorem dX11_all_121 : decode cX11_all 121 = .ok (.getfield 42, 3) := by decide +kernel
theorem dX11_all_124 : decode cX11_all 124 = .ok (.aload_n 0, 1) := by decide +kernel
theorem dX11_all_125 : decode cX11_all 125 = .ok (.getfield 24, 3) := by decide +kernel
theorem dX11_all_128 : decode cX11_all 128 = .ok (.invokevirtual 389, 3) := by decide +kernel
theorem dX11_all_131 : decode cX11_all 131 = .ok (.ireturn, 1) := by decide +kernel
theorem dX11_all_132 : decode cX11_all 132 = .ok (.aload_n 0, 1) := by decide +kernel
theorem dX11_all_133 : decode cX11_all 133 = .ok (.getfield 42, 3) := by decide +kernel
theorem dX11_all_136 : decode cX11_all 136 = .ok (.aload_n 0, 1) := by decide +kernel
theorem dX11_all_137 : decode cX11_all 137 = .ok (.getfield 24, 3) := by decide +kernel
theorem dX11_all_140 : decode cX11_all 140 = .ok (.invokevirtual 392, 3) := by decide +kernel
theorem dX11_all_143 : decode cX11_all 143 = .ok (.ireturn, 1) := by decide +kernel
theorem dX11_all_144 : decode cX11_all 144 = .ok (.aload_n 0, 1) := by decide +kernel
theorem dX11_all_145 : decode cX11_all 145 = .ok (.invokevirtual 395, 3) := by decide +kernel
theorem dX11_all_148 : decode cX11_all 148 = .ok (.ireturn, 1) := by decide +kernel
theorem dX11_all_149 : decode cX11_all 149 = .ok (.aload_n 0, 1) := by decide +kernel
theorem dX11_all_150 : decode cX11_all 150 = .ok (.invokevirtual 398, 3) := by decide +kernel
theorem dX11_all_153 : decode cX11_all 153 = .ok (.ireturn, 1) := by decide +kernel
theorem dX11_all_154 : decode cX11_all 154 = .ok (.ldc 181, 2) := by decide +kernel
theorem dX11_all_156 : decode cX11_all 156 = .ok (.ireturn, 1) := by decide +kernel
theorem dX11_image_0 : decode cX11_image 0 = .ok (.aload_n 0, 1) := by decide +kernel
theorem dX11_image_1 : decode cX11_image 1 = .ok (.getfield 24, 3) := by decide +kernel
theorem dX11_image_4 : decode cX11_image 4 = .ok (.invokevirtual 140, 3) := by decide +kernel
theorem dX11_image_7 : decode cX11_image 7 = .ok (.ifCond .ne 5, 3) := by decide +kernel
theorem dX11_image_10 : decode cX11_image 10 = .ok (.iconst (-1), 1) := by decide +kernel
theorem dX11_image_11 : decode cX11_image 11 = .ok (.ireturn, 1) := by decide +kernel
theorem dX11_image_12 : decode cX11_image 12 = .ok (.aload_n 0, 1) := by decide +kernel
theorem dX11_image_13 : decode cX11_image 13 = .ok (.getfield 49, 3) := by decide +kernel
theorem dX11_image_16 : decode cX11_image 16 = .ok (.aload_n 0, 1) := by decide +kernel
theorem dX11_image_17 : decode cX11_image 17 = .ok (.getfield 42, 3) := by decide +kernel
theorem dX11_image_20 : decode cX11_image 20 = .ok (.invokevirtual 331, 3) := by decide +kernel
theorem dX11_image_23 : decode cX11_image 23 = .ok (.aload_n 0, 1) := by decide +kernel
theorem dX11_image_24 : decode cX11_image 24 = .ok (.getfield 59, 3) := by decide +kernel
theorem dX11_image_27 : decode cX11_image 27 = .ok (.aload_n 0, 1) := by decide +kernel
theorem dX11_image_28 : decode cX11_image 28 = .ok (.getfield 55, 3) := by decide +kernel
theorem dX11_image_31 : decode cX11_image 31 = .ok (.invokevirtual 401, 3) := by decide +kernel
theorem dX11_image_34 : decode cX11_image 34 = .ok (.aload_n 0, 1) := by decide +kernel
theorem dX11_image_35 : decode cX11_image 35 = .ok (.iconst 1, 1) := by decide +kernel
theorem dX11_image_36 : decode cX11_image 36 = .ok (.putfield 404, 3) := by decide +kernel
theorem dX11_image_39 : decode cX11_image 39 = .ok (.aload_n 0, 1) := by decide +kernel
theorem dX11_image_40 : decode cX11_image 40 = .ok (.getfield 42, 3) := by decide +kernel
theorem dX11_image_43 : decode cX11_image 43 = .ok (.getfield 277, 3) := by decide +kernel
theorem dX11_image_46 : decode cX11_image 46 = .ok (.ireturn, 1) := by decide +kernel
theorem dX11_back_0 : decode cX11_back 0 = .ok (.aload_n 0, 1) := by decide +kernel
theorem dX11_back_1 : decode cX11_back 1 = .ok (.getfield 404, 3) := by decide +kernel
theorem dX11_back_4 : decode cX11_back 4 = .ok (.ifCond .ne 5, 3) := by decide +kernel
theorem dX11_back_7 : decode cX11_back 7 = .ok (.iconst (-1), 1) := by decide +kernel
theorem dX11_back_8 : decode cX11_back 8 = .ok (.ireturn, 1) := by decide +kernel
theorem dX11_back_9 : decode cX11_back 9 = .ok (.aload_n 0, 1) := by decide +kernel
theorem dX11_back_10 : decode cX11_back 10 = .ok (.getfield 42, 3) := by decide +kernel
theorem dX11_back_13 : decode cX11_back 13 = .ok (.aload_n 0, 1) := by decide +kernel
theorem dX11_back_14 : decode cX11_back 14 = .ok (.getfield 49, 3) := by decide +kernel
theorem dX11_back_17 : decode cX11_back 17 = .ok (.invokevirtual 331, 3) := by decide +kernel
theorem dX11_back_20 : decode cX11_back 20 = .ok (.aload_n 0, 1) := by decide +kernel
theorem dX11_back_21 : decode cX11_back 21 = .ok (.getfield 55, 3) := by decide +kernel
theorem dX11_back_24 : decode cX11_back 24 = .ok (.aload_n 0, 1) := by decide +kernel
theorem dX11_back_25 : decode cX11_back 25 = .ok (.getfield 59, 3) := by decide +kernel
theorem dX11_back_28 : decode cX11_back 28 = .ok (.invokevirtual 401, 3) := by decide +kernel
theorem dX11_back_31 : decode cX11_back 31 = .ok (.aload_n 0, 1) := by decide +kernel
theorem dX11_back_32 : decode cX11_back 32 = .ok (.getfield 65, 3) := by decide +kernel
theorem dX11_back_35 : decode cX11_back 35 = .ok (.invokevirtual 408, 3) := by decide +kernel
theorem dX11_back_38 : decode cX11_back 38 = .ok (.aload_n 0, 1) := by decide +kernel
theorem dX11_back_39 : decode cX11_back 39 = .ok (.getfield 42, 3) := by decide +kernel
theorem dX11_back_42 : decode cX11_back 42 = .ok (.getfield 277, 3) := by decide +kernel
theorem dX11_back_45 : decode cX11_back 45 = .ok (.ireturn, 1) := by decide +kernel
theorem dX11_count_0 : decode cX11_count 0 = .ok (.iload_n 1, 1) := by decide +kernel
theorem dX11_count_1 : decode cX11_count 1 = .ok (.tableswitch 93 0 6 #[43, 51, 56, 64, 69, 77, 85], 43) := by decide +kernel
theorem dX11_count_44 : decode cX11_count 44 = .ok (.aload_n 0, 1) := by decide +kernel
theorem dX11_count_45 : decode cX11_count 45 = .ok (.getfield 24, 3) := by decide +kernel
theorem dX11_count_48 : decode cX11_count 48 = .ok (.getfield 411, 3) := by decide +kernel
theorem dX11_count_51 : decode cX11_count 51 = .ok (.ireturn, 1) := by decide +kernel
theorem dX11_count_52 : decode cX11_count 52 = .ok (.aload_n 0, 1) := by decide +kernel
theorem dX11_count_53 : decode cX11_count 53 = .ok (.getfield 134, 3) := by decide +kernel
theorem dX11_count_56 : decode cX11_count 56 = .ok (.ireturn, 1) := by decide +kernel
theorem dX11_count_57 : decode cX11_count 57 = .ok (.aload_n 0, 1) := by decide +kernel
theorem dX11_count_58 : decode cX11_count 58 = .ok (.getfield 20, 3) := by decide +kernel
theorem dX11_count_61 : decode cX11_count 61 = .ok (.getfield 103, 3) := by decide +kernel
theorem dX11_count_64 : decode cX11_count 64 = .ok (.ireturn, 1) := by decide +kernel
theorem dX11_count_65 : decode cX11_count 65 = .ok (.aload_n 0, 1) := by decide +kernel
theorem dX11_count_66 : decode cX11_count 66 = .ok (.invokevirtual 287, 3) := by decide +kernel
theorem dX11_count_69 : decode cX11_count 69 = .ok (.ireturn, 1) := by decide +kernel
theorem dX11_count_70 : decode cX11_count 70 = .ok (.aload_n 0, 1) := by decide +kernel
theorem dX11_count_71 : decode cX11_count 71 = .ok (.getfield 65, 3) := by decide +kernel
theorem dX11_count_74 : decode cX11_count 74 = .ok (.getfield 284, 3) := by decide +kernel
theorem dX11_count_77 : decode cX11_count 77 = .ok (.ireturn, 1) := by decide +kernel
theorem dX11_count_78 : decode cX11_count 78 = .ok (.aload_n 0, 1) := by decide +kernel
theorem dX11_count_79 : decode cX11_count 79 = .ok (.getfield 24, 3) := by decide +kernel
theorem dX11_count_82 : decode cX11_count 82 = .ok (.getfield 414, 3) := by decide +kernel
theorem dX11_count_85 : decode cX11_count 85 = .ok (.ireturn, 1) := by decide +kernel
theorem dX11_count_86 : decode cX11_count 86 = .ok (.aload_n 0, 1) := by decide +kernel
theorem dX11_count_87 : decode cX11_count 87 = .ok (.getfield 42, 3) := by decide +kernel
theorem dX11_count_90 : decode cX11_count 90 = .ok (.getfield 417, 3) := by decide +kernel
theorem dX11_count_93 : decode cX11_count 93 = .ok (.ireturn, 1) := by decide +kernel
theorem dX11_count_94 : decode cX11_count 94 = .ok (.ldc 181, 2) := by decide +kernel
theorem dX11_count_96 : decode cX11_count 96 = .ok (.ireturn, 1) := by decide +kernel
theorem dX11_newScripts_0 : decode cX11_newScripts 0 = .ok (.iconst 5, 1) := by decide +kernel
theorem dX11_newScripts_1 : decode cX11_newScripts 1 = .ok (.anewarray 364, 3) := by decide +kernel
theorem dX11_newScripts_4 : decode cX11_newScripts 4 = .ok (.astore_n 0, 1) := by decide +kernel
theorem dX11_newScripts_5 : decode cX11_newScripts 5 = .ok (.iconst 0, 1) := by decide +kernel
theorem dX11_newScripts_6 : decode cX11_newScripts 6 = .ok (.istore_n 1, 1) := by decide +kernel
theorem dX11_newScripts_7 : decode cX11_newScripts 7 = .ok (.iload_n 1, 1) := by decide +kernel
theorem dX11_newScripts_8 : decode cX11_newScripts 8 = .ok (.aload_n 0, 1) := by decide +kernel
theorem dX11_newScripts_9 : decode cX11_newScripts 9 = .ok (.arraylength, 1) := by decide +kernel
theorem dX11_newScripts_10 : decode cX11_newScripts 10 = .ok (.if_icmp .ge 19, 3) := by decide +kernel
theorem dX11_newScripts_13 : decode cX11_newScripts 13 = .ok (.aload_n 0, 1) := by decide +kernel
theorem dX11_newScripts_14 : decode cX11_newScripts 14 = .ok (.iload_n 1, 1) := by decide +kernel
theorem dX11_newScripts_15 : decode cX11_newScripts 15 = .ok (.new 364, 3) := by decide +kernel
theorem dX11_newScripts_18 : decode cX11_newScripts 18 = .ok (.dup, 1) := by decide +kernel
theorem dX11_newScripts_19 : decode cX11_newScripts 19 = .ok (.invokespecial 420, 3) := by decide +kernel
theorem dX11_newScripts_22 : decode cX11_newScripts 22 = .ok (.aastore, 1) := by decide +kernel
theorem dX11_newScripts_23 : decode cX11_newScripts 23 = .ok (.iinc 1 1, 3) := by decide +kernel
theorem dX11_newScripts_26 : decode cX11_newScripts 26 = .ok (.goto (-19), 3) := by decide +kernel
theorem dX11_newScripts_29 : decode cX11_newScripts 29 = .ok (.aload_n 0, 1) := by decide +kernel
theorem dX11_newScripts_30 : decode cX11_newScripts 30 = .ok (.areturn, 1) := by decide +kernel
theorem dX11_spareScript_0 : decode cX11_spareScript 0 = .ok (.aload_n 0, 1) := by decide +kernel
theorem dX11_spareScript_1 : decode cX11_spareScript 1 = .ok (.getfield 35, 3) := by decide +kernel
theorem dX11_spareScript_4 : decode cX11_spareScript 4 = .ok (.aload_n 0, 1) := by decide +kernel
theorem dX11_spareScript_5 : decode cX11_spareScript 5 = .ok (.getfield 134, 3) := by decide +kernel
theorem dX11_spareScript_8 : decode cX11_spareScript 8 = .ok (.iconst 4, 1) := by decide +kernel
theorem dX11_spareScript_9 : decode cX11_spareScript 9 = .ok (.invokestatic 421, 3) := by decide +kernel
theorem dX11_spareScript_12 : decode cX11_spareScript 12 = .ok (.aaload, 1) := by decide +kernel
theorem dX11_spareScript_13 : decode cX11_spareScript 13 = .ok (.areturn, 1) := by decide +kernel
theorem dX11_takeDraft_0 : decode cX11_takeDraft 0 = .ok (.aload_n 0, 1) := by decide +kernel
theorem dX11_takeDraft_1 : decode cX11_takeDraft 1 = .ok (.getfield 24, 3) := by decide +kernel
theorem dX11_takeDraft_4 : decode cX11_takeDraft 4 = .ok (.astore_n 1, 1) := by decide +kernel
theorem dX11_takeDraft_5 : decode cX11_takeDraft 5 = .ok (.aload_n 0, 1) := by decide +kernel
theorem dX11_takeDraft_6 : decode cX11_takeDraft 6 = .ok (.aload_n 0, 1) := by decide +kernel
theorem dX11_takeDraft_7 : decode cX11_takeDraft 7 = .ok (.getfield 28, 3) := by decide +kernel
theorem dX11_takeDraft_10 : decode cX11_takeDraft 10 = .ok (.putfield 24, 3) := by decide +kernel
theorem dX11_takeDraft_13 : decode cX11_takeDraft 13 = .ok (.aload_n 0, 1) := by decide +kernel
theorem dX11_takeDraft_14 : decode cX11_takeDraft 14 = .ok (.aload_n 1, 1) := by decide +kernel
theorem dX11_takeDraft_15 : decode cX11_takeDraft 15 = .ok (.putfield 28, 3) := by decide +kernel
theorem dX11_takeDraft_18 : decode cX11_takeDraft 18 = .ok (.aload_n 0, 1) := by decide +kernel
theorem dX11_takeDraft_19 : decode cX11_takeDraft 19 = .ok (.getfield 42, 3) := by decide +kernel
theorem dX11_takeDraft_22 : decode cX11_takeDraft 22 = .ok (.invokevirtual 426, 3) := by decide +kernel
theorem dX11_takeDraft_25 : decode cX11_takeDraft 25 = .ok (.aload_n 0, 1) := by decide +kernel
theorem dX11_takeDraft_26 : decode cX11_takeDraft 26 = .ok (.getfield 65, 3) := by decide +kernel
theorem dX11_takeDraft_29 : decode cX11_takeDraft 29 = .ok (.invokevirtual 408, 3) := by decide +kernel
theorem dX11_takeDraft_32 : decode cX11_takeDraft 32 = .ok (.aload_n 0, 1) := by decide +kernel
theorem dX11_takeDraft_33 : decode cX11_takeDraft 33 = .ok (.iconst 0, 1) := by decide +kernel
theorem dX11_takeDraft_34 : decode cX11_takeDraft 34 = .ok (.putfield 404, 3) := by decide +kernel
theorem dX11_takeDraft_37 : decode cX11_takeDraft 37 = .ok (.aload_n 0, 1) := by decide +kernel
theorem dX11_takeDraft_38 : decode cX11_takeDraft 38 = .ok (.getfield 20, 3) := by decide +kernel
theorem dX11_takeDraft_41 : decode cX11_takeDraft 41 = .ok (.iconst 0, 1) := by decide +kernel
theorem dX11_takeDraft_42 : decode cX11_takeDraft 42 = .ok (.putfield 103, 3) := by decide +kernel
theorem dX11_takeDraft_45 : decode cX11_takeDraft 45 = .ok (.aload_n 0, 1) := by decide +kernel
theorem dX11_takeDraft_46 : decode cX11_takeDraft 46 = .ok (.getfield 24, 3) := by decide +kernel
theorem dX11_takeDraft_49 : decode cX11_takeDraft 49 = .ok (.getfield 411, 3) := by decide +kernel
theorem dX11_takeDraft_52 : decode cX11_takeDraft 52 = .ok (.ireturn, 1) := by decide +kernel
theorem dX11_takeSpareScript_0 : decode cX11_takeSpareScript 0 = .ok (.aload_n 0, 1) := by decide +kernel
theorem dX11_takeSpareScript_1 : decode cX11_takeSpareScript 1 = .ok (.getfield 20, 3) := by decide +kernel
theorem dX11_takeSpareScript_4 : decode cX11_takeSpareScript 4 = .ok (.iconst 0, 1) := by decide +kernel
theorem dX11_takeSpareScript_5 : decode cX11_takeSpareScript 5 = .ok (.putfield 103, 3) := by decide +kernel
theorem dX11_takeSpareScript_8 : decode cX11_takeSpareScript 8 = .ok (.aload_n 0, 1) := by decide +kernel
theorem dX11_takeSpareScript_9 : decode cX11_takeSpareScript 9 = .ok (.dup, 1) := by decide +kernel
theorem dX11_takeSpareScript_10 : decode cX11_takeSpareScript 10 = .ok (.getfield 134, 3) := by decide +kernel
theorem dX11_takeSpareScript_13 : decode cX11_takeSpareScript 13 = .ok (.iconst 1, 1) := by decide +kernel
theorem dX11_takeSpareScript_14 : decode cX11_takeSpareScript 14 = .ok (.iadd, 1) := by decide +kernel
theorem dX11_takeSpareScript_15 : decode cX11_takeSpareScript 15 = .ok (.putfield 134, 3) := by decide +kernel
theorem dX11_takeSpareScript_18 : decode cX11_takeSpareScript 18 = .ok (.aload_n 0, 1) := by decide +kernel
theorem dX11_takeSpareScript_19 : decode cX11_takeSpareScript 19 = .ok (.getfield 134, 3) := by decide +kernel
theorem dX11_takeSpareScript_22 : decode cX11_takeSpareScript 22 = .ok (.iconst 1, 1) := by decide +kernel
theorem dX11_takeSpareScript_23 : decode cX11_takeSpareScript 23 = .ok (.isub, 1) := by decide +kernel
theorem dX11_takeSpareScript_24 : decode cX11_takeSpareScript 24 = .ok (.ireturn, 1) := by decide +kernel
theorem dX11_clusterNow_0 : decode cX11_clusterNow 0 = .ok (.iload_n 2, 1) := by decide +kernel
theorem dX11_clusterNow_1 : decode cX11_clusterNow 1 = .ok (.tableswitch 108 4 9 #[39, 49, 59, 69, 78, 91], 39) := by decide +kernel
theorem dX11_clusterNow_40 : decode cX11_clusterNow 40 = .ok (.aload_n 0, 1) := by decide +kernel
theorem dX11_clusterNow_41 : decode cX11_clusterNow 41 = .ok (.getfield 42, 3) := by decide +kernel
theorem dX11_clusterNow_44 : decode cX11_clusterNow 44 = .ok (.getfield 347, 3) := by decide +kernel
theorem dX11_clusterNow_47 : decode cX11_clusterNow 47 = .ok (.iload_n 1, 1) := by decide +kernel
theorem dX11_clusterNow_48 : decode cX11_clusterNow 48 = .ok (.iaload, 1) := by decide +kernel
theorem dX11_clusterNow_49 : decode cX11_clusterNow 49 = .ok (.ireturn, 1) := by decide +kernel
theorem dX11_clusterNow_50 : decode cX11_clusterNow 50 = .ok (.aload_n 0, 1) := by decide +kernel
theorem dX11_clusterNow_51 : decode cX11_clusterNow 51 = .ok (.getfield 42, 3) := by decide +kernel
theorem dX11_clusterNow_54 : decode cX11_clusterNow 54 = .ok (.getfield 429, 3) := by decide +kernel
theorem dX11_clusterNow_57 : decode cX11_clusterNow 57 = .ok (.iload_n 1, 1) := by decide +kernel
theorem dX11_clusterNow_58 : decode cX11_clusterNow 58 = .ok (.iaload, 1) := by decide +kernel
theorem dX11_clusterNow_59 : decode cX11_clusterNow 59 = .ok (.ireturn, 1) := by decide +kernel
theorem dX11_clusterNow_60 : decode cX11_clusterNow 60 = .ok (.aload_n 0, 1) := by decide +kernel
theorem dX11_clusterNow_61 : decode cX11_clusterNow 61 = .ok (.getfield 42, 3) := by decide +kernel
theorem dX11_clusterNow_64 : decode cX11_clusterNow 64 = .ok (.getfield 431, 3) := by decide +kernel
theorem dX11_clusterNow_67 : decode cX11_clusterNow 67 = .ok (.iload_n 1, 1) := by decide +kernel
theorem dX11_clusterNow_68 : decode cX11_clusterNow 68 = .ok (.iaload, 1) := by decide +kernel
theorem dX11_clusterNow_69 : decode cX11_clusterNow 69 = .ok (.ireturn, 1) := by decide +kernel
theorem dX11_clusterNow_70 : decode cX11_clusterNow 70 = .ok (.aload_n 0, 1) := by decide +kernel
theorem dX11_clusterNow_71 : decode cX11_clusterNow 71 = .ok (.getfield 42, 3) := by decide +kernel
theorem dX11_clusterNow_74 : decode cX11_clusterNow 74 = .ok (.iload_n 1, 1) := by decide +kernel
theorem dX11_clusterNow_75 : decode cX11_clusterNow 75 = .ok (.invokevirtual 434, 3) := by decide +kernel
theorem dX11_clusterNow_78 : decode cX11_clusterNow 78 = .ok (.ireturn, 1) := by decide +kernel
theorem dX11_clusterNow_79 : decode cX11_clusterNow 79 = .ok (.aload_n 0, 1) := by decide +kernel
theorem dX11_clusterNow_80 : decode cX11_clusterNow 80 = .ok (.getfield 42, 3) := by decide +kernel
theorem dX11_clusterNow_83 : decode cX11_clusterNow 83 = .ok (.aload_n 0, 1) := by decide +kernel
theorem dX11_clusterNow_84 : decode cX11_clusterNow 84 = .ok (.getfield 24, 3) := by decide +kernel
theorem dX11_clusterNow_87 : decode cX11_clusterNow 87 = .ok (.iload_n 1, 1) := by decide +kernel
theorem dX11_clusterNow_88 : decode cX11_clusterNow 88 = .ok (.invokevirtual 437, 3) := by decide +kernel
theorem dX11_clusterNow_91 : decode cX11_clusterNow 91 = .ok (.ireturn, 1) := by decide +kernel
theorem dX11_clusterNow_92 : decode cX11_clusterNow 92 = .ok (.aload_n 0, 1) := by decide +kernel
theorem dX11_clusterNow_93 : decode cX11_clusterNow 93 = .ok (.getfield 80, 3) := by decide +kernel
theorem dX11_clusterNow_96 : decode cX11_clusterNow 96 = .ok (.aload_n 0, 1) := by decide +kernel
theorem dX11_clusterNow_97 : decode cX11_clusterNow 97 = .ok (.getfield 24, 3) := by decide +kernel
theorem dX11_clusterNow_100 : decode cX11_clusterNow 100 = .ok (.aload_n 0, 1) := by decide +kernel
theorem dX11_clusterNow_101 : decode cX11_clusterNow 101 = .ok (.getfield 42, 3) := by decide +kernel
theorem dX11_clusterNow_104 : decode cX11_clusterNow 104 = .ok (.iload_n 1, 1) := by decide +kernel
theorem dX11_clusterNow_105 : decode cX11_clusterNow 105 = .ok (.invokevirtual 441, 3) := by decide +kernel
theorem dX11_clusterNow_108 : decode cX11_clusterNow 108 = .ok (.ireturn, 1) := by decide +kernel
theorem dX11_clusterNow_109 : decode cX11_clusterNow 109 = .ok (.aload_n 0, 1) := by decide +kernel
theorem dX11_clusterNow_110 : decode cX11_clusterNow 110 = .ok (.getfield 80, 3) := by decide +kernel
theorem dX11_clusterNow_113 : decode cX11_clusterNow 113 = .ok (.aload_n 0, 1) := by decide +kernel
theorem dX11_clusterNow_114 : decode cX11_clusterNow 114 = .ok (.getfield 24, 3) := by decide +kernel
theorem dX11_clusterNow_117 : decode cX11_clusterNow 117 = .ok (.aload_n 0, 1) := by decide +kernel
theorem dX11_clusterNow_118 : decode cX11_clusterNow 118 = .ok (.getfield 42, 3) := by decide +kernel
theorem dX11_clusterNow_121 : decode cX11_clusterNow 121 = .ok (.iload_n 1, 1) := by decide +kernel
theorem dX11_clusterNow_122 : decode cX11_clusterNow 122 = .ok (.invokevirtual 444, 3) := by decide +kernel
theorem dX11_clusterNow_125 : decode cX11_clusterNow 125 = .ok (.ireturn, 1) := by decide +kernel
theorem dX11_tasksOn_0 : decode cX11_tasksOn 0 = .ok (.iconst 0, 1) := by decide +kernel
theorem dX11_tasksOn_1 : decode cX11_tasksOn 1 = .ok (.istore_n 2, 1) := by decide +kernel
theorem dX11_tasksOn_2 : decode cX11_tasksOn 2 = .ok (.iconst 0, 1) := by decide +kernel
theorem dX11_tasksOn_3 : decode cX11_tasksOn 3 = .ok (.istore_n 3, 1) := by decide +kernel
theorem dX11_tasksOn_4 : decode cX11_tasksOn 4 = .ok (.iload_n 3, 1) := by decide +kernel
theorem dX11_tasksOn_5 : decode cX11_tasksOn 5 = .ok (.aload_n 0, 1) := by decide +kernel
theorem dX11_tasksOn_6 : decode cX11_tasksOn 6 = .ok (.getfield 24, 3) := by decide +kernel
theorem dX11_tasksOn_9 : decode cX11_tasksOn 9 = .ok (.getfield 414, 3) := by decide +kernel
theorem dX11_tasksOn_12 : decode cX11_tasksOn 12 = .ok (.if_icmp .ge 33, 3) := by decide +kernel
theorem dX11_tasksOn_15 : decode cX11_tasksOn 15 = .ok (.iload_n 2, 1) := by decide +kernel
theorem dX11_tasksOn_16 : decode cX11_tasksOn 16 = .ok (.iload_n 3, 1) := by decide +kernel
theorem dX11_tasksOn_17 : decode cX11_tasksOn 17 = .ok (.aload_n 0, 1) := by decide +kernel
theorem dX11_tasksOn_18 : decode cX11_tasksOn 18 = .ok (.getfield 42, 3) := by decide +kernel
theorem dX11_tasksOn_21 : decode cX11_tasksOn 21 = .ok (.getfield 215, 3) := by decide +kernel
theorem dX11_tasksOn_24 : decode cX11_tasksOn 24 = .ok (.iload_n 3, 1) := by decide +kernel
theorem dX11_tasksOn_25 : decode cX11_tasksOn 25 = .ok (.iaload, 1) := by decide +kernel
theorem dX11_tasksOn_26 : decode cX11_tasksOn 26 = .ok (.iload_n 1, 1) := by decide +kernel
theorem dX11_tasksOn_27 : decode cX11_tasksOn 27 = .ok (.if_icmp .ne 7, 3) := by decide +kernel
theorem dX11_tasksOn_30 : decode cX11_tasksOn 30 = .ok (.iconst 1, 1) := by decide +kernel
theorem dX11_tasksOn_31 : decode cX11_tasksOn 31 = .ok (.goto 4, 3) := by decide +kernel
theorem dX11_tasksOn_34 : decode cX11_tasksOn 34 = .ok (.iconst 0, 1) := by decide +kernel
theorem dX11_tasksOn_35 : decode cX11_tasksOn 35 = .ok (.invokestatic 447, 3) := by decide +kernel
theorem dX11_tasksOn_38 : decode cX11_tasksOn 38 = .ok (.istore_n 2, 1) := by decide +kernel
theorem dX11_tasksOn_39 : decode cX11_tasksOn 39 = .ok (.iinc 3 1, 3) := by decide +kernel
theorem dX11_tasksOn_42 : decode cX11_tasksOn 42 = .ok (.goto (-38), 3) := by decide +kernel
theorem dX11_tasksOn_45 : decode cX11_tasksOn 45 = .ok (.iload_n 2, 1) := by decide +kernel
theorem dX11_tasksOn_46 : decode cX11_tasksOn 46 = .ok (.ireturn, 1) := by decide +kernel
theorem dX11_shareOf_0 : decode cX11_shareOf 0 = .ok (.aload_n 0, 1) := by decide +kernel
theorem dX11_shareOf_1 : decode cX11_shareOf 1 = .ok (.getfield 42, 3) := by decide +kernel
theorem dX11_shareOf_4 : decode cX11_shareOf 4 = .ok (.iload_n 1, 1) := by decide +kernel
theorem dX11_shareOf_5 : decode cX11_shareOf 5 = .ok (.invokevirtual 451, 3) := by decide +kernel
theorem dX11_shareOf_8 : decode cX11_shareOf 8 = .ok (.ifCond .eq 7, 3) := by decide +kernel
theorem dX11_shareOf_11 : decode cX11_shareOf 11 = .ok (.iconst 0, 1) := by decide +kernel
theorem dX11_shareOf_12 : decode cX11_shareOf 12 = .ok (.goto 11, 3) := by decide +kernel
theorem dX11_shareOf_15 : decode cX11_shareOf 15 = .ok (.aload_n 0, 1) := by decide +kernel
theorem dX11_shareOf_16 : decode cX11_shareOf 16 = .ok (.getfield 24, 3) := by decide +kernel
theorem dX11_shareOf_19 : decode cX11_shareOf 19 = .ok (.iload_n 1, 1) := by decide +kernel
theorem dX11_shareOf_20 : decode cX11_shareOf 20 = .ok (.invokevirtual 454, 3) := by decide +kernel
theorem dX11_shareOf_23 : decode cX11_shareOf 23 = .ok (.ireturn, 1) := by decide +kernel
theorem dX11_sharesOn_0 : decode cX11_sharesOn 0 = .ok (.iconst 0, 1) := by decide +kernel
theorem dX11_sharesOn_1 : decode cX11_sharesOn 1 = .ok (.istore_n 2, 1) := by decide +kernel
theorem dX11_sharesOn_2 : decode cX11_sharesOn 2 = .ok (.iconst 0, 1) := by decide +kernel
theorem dX11_sharesOn_3 : decode cX11_sharesOn 3 = .ok (.istore_n 3, 1) := by decide +kernel
theorem dX11_sharesOn_4 : decode cX11_sharesOn 4 = .ok (.iload_n 3, 1) := by decide +kernel
theorem dX11_sharesOn_5 : decode cX11_sharesOn 5 = .ok (.aload_n 0, 1) := by decide +kernel
theorem dX11_sharesOn_6 : decode cX11_sharesOn 6 = .ok (.getfield 24, 3) := by decide +kernel
theorem dX11_sharesOn_9 : decode cX11_sharesOn 9 = .ok (.getfield 414, 3) := by decide +kernel
theorem dX11_sharesOn_12 : decode cX11_sharesOn 12 = .ok (.if_icmp .ge 34, 3) := by decide +kernel
theorem dX11_sharesOn_15 : decode cX11_sharesOn 15 = .ok (.iload_n 2, 1) := by decide +kernel
theorem dX11_sharesOn_16 : decode cX11_sharesOn 16 = .ok (.aload_n 0, 1) := by decide +kernel
theorem dX11_sharesOn_17 : decode cX11_sharesOn 17 = .ok (.getfield 42, 3) := by decide +kernel
theorem dX11_sharesOn_20 : decode cX11_sharesOn 20 = .ok (.getfield 215, 3) := by decide +kernel
theorem dX11_sharesOn_23 : decode cX11_sharesOn 23 = .ok (.iload_n 3, 1) := by decide +kernel
theorem dX11_sharesOn_24 : decode cX11_sharesOn 24 = .ok (.iaload, 1) := by decide +kernel
theorem dX11_sharesOn_25 : decode cX11_sharesOn 25 = .ok (.iload_n 1, 1) := by decide +kernel
theorem dX11_sharesOn_26 : decode cX11_sharesOn 26 = .ok (.if_icmp .ne 11, 3) := by decide +kernel
theorem dX11_sharesOn_29 : decode cX11_sharesOn 29 = .ok (.aload_n 0, 1) := by decide +kernel
theorem dX11_sharesOn_30 : decode cX11_sharesOn 30 = .ok (.iload_n 3, 1) := by decide +kernel
theorem dX11_sharesOn_31 : decode cX11_sharesOn 31 = .ok (.invokevirtual 230, 3) := by decide +kernel
theorem dX11_sharesOn_34 : decode cX11_sharesOn 34 = .ok (.goto 4, 3) := by decide +kernel
theorem dX11_sharesOn_37 : decode cX11_sharesOn 37 = .ok (.iconst 0, 1) := by decide +kernel
theorem dX11_sharesOn_38 : decode cX11_sharesOn 38 = .ok (.iadd, 1) := by decide +kernel
theorem dX11_sharesOn_39 : decode cX11_sharesOn 39 = .ok (.istore_n 2, 1) := by decide +kernel
theorem dX11_sharesOn_40 : decode cX11_sharesOn 40 = .ok (.iinc 3 1, 3) := by decide +kernel
theorem dX11_sharesOn_43 : decode cX11_sharesOn 43 = .ok (.goto (-39), 3) := by decide +kernel
theorem dX11_sharesOn_46 : decode cX11_sharesOn 46 = .ok (.iload_n 2, 1) := by decide +kernel
theorem dX11_sharesOn_47 : decode cX11_sharesOn 47 = .ok (.ireturn, 1) := by decide +kernel
theorem dX11_sharesOfAll_0 : decode cX11_sharesOfAll 0 = .ok (.iconst 0, 1) := by decide +kernel
theorem dX11_sharesOfAll_1 : decode cX11_sharesOfAll 1 = .ok (.istore_n 1, 1) := by decide +kernel
theorem dX11_sharesOfAll_2 : decode cX11_sharesOfAll 2 = .ok (.iconst 0, 1) := by decide +kernel
theorem dX11_sharesOfAll_3 : decode cX11_sharesOfAll 3 = .ok (.istore_n 2, 1) := by decide +kernel
theorem dX11_sharesOfAll_4 : decode cX11_sharesOfAll 4 = .ok (.iload_n 2, 1) := by decide +kernel
theorem dX11_sharesOfAll_5 : decode cX11_sharesOfAll 5 = .ok (.aload_n 0, 1) := by decide +kernel
theorem dX11_sharesOfAll_6 : decode cX11_sharesOfAll 6 = .ok (.getfield 24, 3) := by decide +kernel
theorem dX11_sharesOfAll_9 : decode cX11_sharesOfAll 9 = .ok (.getfield 414, 3) := by decide +kernel
theorem dX11_sharesOfAll_12 : decode cX11_sharesOfAll 12 = .ok (.if_icmp .ge 17, 3) := by decide +kernel
theorem dX11_sharesOfAll_15 : decode cX11_sharesOfAll 15 = .ok (.iload_n 1, 1) := by decide +kernel
theorem dX11_sharesOfAll_16 : decode cX11_sharesOfAll 16 = .ok (.aload_n 0, 1) := by decide +kernel
theorem dX11_sharesOfAll_17 : decode cX11_sharesOfAll 17 = .ok (.iload_n 2, 1) := by decide +kernel
theorem dX11_sharesOfAll_18 : decode cX11_sharesOfAll 18 = .ok (.invokevirtual 230, 3) := by decide +kernel
theorem dX11_sharesOfAll_21 : decode cX11_sharesOfAll 21 = .ok (.iadd, 1) := by decide +kernel
theorem dX11_sharesOfAll_22 : decode cX11_sharesOfAll 22 = .ok (.istore_n 1, 1) := by decide +kernel
theorem dX11_sharesOfAll_23 : decode cX11_sharesOfAll 23 = .ok (.iinc 2 1, 3) := by decide +kernel
theorem dX11_sharesOfAll_26 : decode cX11_sharesOfAll 26 = .ok (.goto (-22), 3) := by decide +kernel
theorem dX11_sharesOfAll_29 : decode cX11_sharesOfAll 29 = .ok (.iload_n 1, 1) := by decide +kernel
theorem dX11_sharesOfAll_30 : decode cX11_sharesOfAll 30 = .ok (.ireturn, 1) := by decide +kernel
theorem dX11_fullestCore_0 : decode cX11_fullestCore 0 = .ok (.iconst 0, 1) := by decide +kernel
theorem dX11_fullestCore_1 : decode cX11_fullestCore 1 = .ok (.istore_n 1, 1) := by decide +kernel
theorem dX11_fullestCore_2 : decode cX11_fullestCore 2 = .ok (.iconst 1, 1) := by decide +kernel
theorem dX11_fullestCore_3 : decode cX11_fullestCore 3 = .ok (.istore_n 2, 1) := by decide +kernel
theorem dX11_fullestCore_4 : decode cX11_fullestCore 4 = .ok (.iload_n 2, 1) := by decide +kernel
theorem dX11_fullestCore_5 : decode cX11_fullestCore 5 = .ok (.aload_n 0, 1) := by decide +kernel
theorem dX11_fullestCore_6 : decode cX11_fullestCore 6 = .ok (.getfield 24, 3) := by decide +kernel
theorem dX11_fullestCore_9 : decode cX11_fullestCore 9 = .ok (.getfield 150, 3) := by decide +kernel
theorem dX11_fullestCore_12 : decode cX11_fullestCore 12 = .ok (.if_icmp .ge 24, 3) := by decide +kernel
theorem dX11_fullestCore_15 : decode cX11_fullestCore 15 = .ok (.aload_n 0, 1) := by decide +kernel
theorem dX11_fullestCore_16 : decode cX11_fullestCore 16 = .ok (.iload_n 2, 1) := by decide +kernel
theorem dX11_fullestCore_17 : decode cX11_fullestCore 17 = .ok (.invokevirtual 203, 3) := by decide +kernel
theorem dX11_fullestCore_20 : decode cX11_fullestCore 20 = .ok (.aload_n 0, 1) := by decide +kernel
theorem dX11_fullestCore_21 : decode cX11_fullestCore 21 = .ok (.iload_n 1, 1) := by decide +kernel
theorem dX11_fullestCore_22 : decode cX11_fullestCore 22 = .ok (.invokevirtual 203, 3) := by decide +kernel
theorem dX11_fullestCore_25 : decode cX11_fullestCore 25 = .ok (.if_icmp .le 5, 3) := by decide +kernel
theorem dX11_fullestCore_28 : decode cX11_fullestCore 28 = .ok (.iload_n 2, 1) := by decide +kernel
theorem dX11_fullestCore_29 : decode cX11_fullestCore 29 = .ok (.istore_n 1, 1) := by decide +kernel
theorem dX11_fullestCore_30 : decode cX11_fullestCore 30 = .ok (.iinc 2 1, 3) := by decide +kernel
theorem dX11_fullestCore_33 : decode cX11_fullestCore 33 = .ok (.goto (-29), 3) := by decide +kernel
theorem dX11_fullestCore_36 : decode cX11_fullestCore 36 = .ok (.iload_n 1, 1) := by decide +kernel
theorem dX11_fullestCore_37 : decode cX11_fullestCore 37 = .ok (.ireturn, 1) := by decide +kernel
theorem dX11_logLength_0 : decode cX11_logLength 0 = .ok (.aload_n 0, 1) := by decide +kernel
theorem dX11_logLength_1 : decode cX11_logLength 1 = .ok (.getfield 42, 3) := by decide +kernel
theorem dX11_logLength_4 : decode cX11_logLength 4 = .ok (.getfield 290, 3) := by decide +kernel
theorem dX11_logLength_7 : decode cX11_logLength 7 = .ok (.bipush 60, 2) := by decide +kernel
theorem dX11_logLength_9 : decode cX11_logLength 9 = .ok (.invokestatic 421, 3) := by decide +kernel
theorem dX11_logLength_12 : decode cX11_logLength 12 = .ok (.ireturn, 1) := by decide +kernel
theorem dX11_doOrRefuse_0 : decode cX11_doOrRefuse 0 = .ok (.aload_n 0, 1) := by decide +kernel
theorem dX11_doOrRefuse_1 : decode cX11_doOrRefuse 1 = .ok (.getfield 72, 3) := by decide +kernel
theorem dX11_doOrRefuse_4 : decode cX11_doOrRefuse 4 = .ok (.aload_n 0, 1) := by decide +kernel
theorem dX11_doOrRefuse_5 : decode cX11_doOrRefuse 5 = .ok (.getfield 24, 3) := by decide +kernel
theorem dX11_doOrRefuse_8 : decode cX11_doOrRefuse 8 = .ok (.aload_n 0, 1) := by decide +kernel
theorem dX11_doOrRefuse_9 : decode cX11_doOrRefuse 9 = .ok (.getfield 42, 3) := by decide +kernel
theorem dX11_doOrRefuse_12 : decode cX11_doOrRefuse 12 = .ok (.aload_n 1, 1) := by decide +kernel
theorem dX11_doOrRefuse_13 : decode cX11_doOrRefuse 13 = .ok (.invokevirtual 382, 3) := by decide +kernel
theorem dX11_doOrRefuse_16 : decode cX11_doOrRefuse 16 = .ok (.istore_n 2, 1) := by decide +kernel
theorem dX11_doOrRefuse_17 : decode cX11_doOrRefuse 17 = .ok (.iload_n 2, 1) := by decide +kernel
theorem dX11_doOrRefuse_18 : decode cX11_doOrRefuse 18 = .ok (.iconst (-1), 1) := by decide +kernel
theorem dX11_doOrRefuse_19 : decode cX11_doOrRefuse 19 = .ok (.if_icmp .ne 9, 3) := by decide +kernel
theorem dX11_doOrRefuse_22 : decode cX11_doOrRefuse 22 = .ok (.aload_n 0, 1) := by decide +kernel
theorem dX11_doOrRefuse_23 : decode cX11_doOrRefuse 23 = .ok (.aload_n 1, 1) := by decide +kernel
theorem dX11_doOrRefuse_24 : decode cX11_doOrRefuse 24 = .ok (.invokevirtual 386, 3) := by decide +kernel
theorem dX11_doOrRefuse_27 : decode cX11_doOrRefuse 27 = .ok (.ireturn, 1) := by decide +kernel
theorem dX11_doOrRefuse_28 : decode cX11_doOrRefuse 28 = .ok (.iload_n 2, 1) := by decide +kernel
theorem dX11_doOrRefuse_29 : decode cX11_doOrRefuse 29 = .ok (.ifCond .lt 22, 3) := by decide +kernel
theorem dX11_doOrRefuse_32 : decode cX11_doOrRefuse 32 = .ok (.iload_n 2, 1) := by decide +kernel
theorem dX11_doOrRefuse_33 : decode cX11_doOrRefuse 33 = .ok (.aload_n 0, 1) := by decide +kernel
theorem dX11_doOrRefuse_34 : decode cX11_doOrRefuse 34 = .ok (.getfield 93, 3) := by decide +kernel
theorem dX11_doOrRefuse_37 : decode cX11_doOrRefuse 37 = .ok (.arraylength, 1) := by decide +kernel
theorem dX11_doOrRefuse_38 : decode cX11_doOrRefuse 38 = .ok (.if_icmp .ge 13, 3) := by decide +kernel
theorem dX11_doOrRefuse_41 : decode cX11_doOrRefuse 41 = .ok (.aload_n 0, 1) := by decide +kernel
theorem dX11_doOrRefuse_42 : decode cX11_doOrRefuse 42 = .ok (.getfield 93, 3) := by decide +kernel
theorem dX11_doOrRefuse_45 : decode cX11_doOrRefuse 45 = .ok (.iload_n 2, 1) := by decide +kernel
theorem dX11_doOrRefuse_46 : decode cX11_doOrRefuse 46 = .ok (.dup2, 1) := by decide +kernel
theorem dX11_doOrRefuse_47 : decode cX11_doOrRefuse 47 = .ok (.iaload, 1) := by decide +kernel
theorem dX11_doOrRefuse_48 : decode cX11_doOrRefuse 48 = .ok (.iconst 1, 1) := by decide +kernel
theorem dX11_doOrRefuse_49 : decode cX11_doOrRefuse 49 = .ok (.iadd, 1) := by decide +kernel
theorem dX11_doOrRefuse_50 : decode cX11_doOrRefuse 50 = .ok (.iastore, 1) := by decide +kernel
theorem dX11_doOrRefuse_51 : decode cX11_doOrRefuse 51 = .ok (.iconst (-1), 1) := by decide +kernel
theorem dX11_doOrRefuse_52 : decode cX11_doOrRefuse 52 = .ok (.ireturn, 1) := by decide +kernel
theorem dX11_useUpTapeFor_0 : decode cX11_useUpTapeFor 0 = .ok (.iload_n 1, 1) := by decide +kernel
theorem dX11_useUpTapeFor_1 : decode cX11_useUpTapeFor 1 = .ok (.iconst (-1), 1) := by decide +kernel
theorem dX11_useUpTapeFor_2 : decode cX11_useUpTapeFor 2 = .ok (.if_icmp .eq 11, 3) := by decide +kernel
theorem dX11_useUpTapeFor_5 : decode cX11_useUpTapeFor 5 = .ok (.aload_n 0, 1) := by decide +kernel
theorem dX11_useUpTapeFor_6 : decode cX11_useUpTapeFor 6 = .ok (.getfield 20, 3) := by decide +kernel
theorem dX11_useUpTapeFor_9 : decode cX11_useUpTapeFor 9 = .ok (.iconst 0, 1) := by decide +kernel
theorem dX11_useUpTapeFor_10 : decode cX11_useUpTapeFor 10 = .ok (.putfield 103, 3) := by decide +kernel
theorem dX11_useUpTapeFor_13 : decode cX11_useUpTapeFor 13 = .ok (.iload_n 1, 1) := by decide +kernel
theorem dX11_useUpTapeFor_14 : decode cX11_useUpTapeFor 14 = .ok (.ireturn, 1) := by decide +kernel
theorem dX11_doAct_0 : decode cX11_doAct 0 = .ok (.aload_n 0, 1) := by decide +kernel
theorem dX11_doAct_1 : decode cX11_doAct 1 = .ok (.getfield 65, 3) := by decide +kernel
theorem dX11_doAct_4 : decode cX11_doAct 4 = .ok (.aload_n 0, 1) := by decide +kernel
theorem dX11_doAct_5 : decode cX11_doAct 5 = .ok (.getfield 42, 3) := by decide +kernel
theorem dX11_doAct_8 : decode cX11_doAct 8 = .ok (.invokevirtual 455, 3) := by decide +kernel
theorem dX11_doAct_11 : decode cX11_doAct 11 = .ok (.aload_n 0, 1) := by decide +kernel
theorem dX11_doAct_12 : decode cX11_doAct 12 = .ok (.getfield 72, 3) := by decide +kernel
theorem dX11_doAct_15 : decode cX11_doAct 15 = .ok (.aload_n 0, 1) := by decide +kernel
theorem dX11_doAct_16 : decode cX11_doAct 16 = .ok (.getfield 24, 3) := by decide +kernel
theorem dX11_doAct_19 : decode cX11_doAct 19 = .ok (.aload_n 0, 1) := by decide +kernel
theorem dX11_doAct_20 : decode cX11_doAct 20 = .ok (.getfield 42, 3) := by decide +kernel
theorem dX11_doAct_23 : decode cX11_doAct 23 = .ok (.aload_n 1, 1) := by decide +kernel
theorem dX11_doAct_24 : decode cX11_doAct 24 = .ok (.invokevirtual 458, 3) := by decide +kernel
theorem dX11_doAct_27 : decode cX11_doAct 27 = .ok (.istore_n 2, 1) := by decide +kernel
theorem dX11_doAct_28 : decode cX11_doAct 28 = .ok (.aload_n 0, 1) := by decide +kernel
theorem dX11_doAct_29 : decode cX11_doAct 29 = .ok (.getfield 55, 3) := by decide +kernel
theorem dX11_doAct_32 : decode cX11_doAct 32 = .ok (.aload_n 0, 1) := by decide +kernel
theorem dX11_doAct_33 : decode cX11_doAct 33 = .ok (.getfield 42, 3) := by decide +kernel
theorem dX11_doAct_36 : decode cX11_doAct 36 = .ok (.getfield 290, 3) := by decide +kernel
theorem dX11_doAct_39 : decode cX11_doAct 39 = .ok (.aload_n 1, 1) := by decide +kernel
theorem dX11_doAct_40 : decode cX11_doAct 40 = .ok (.getfield 370, 3) := by decide +kernel
theorem dX11_doAct_43 : decode cX11_doAct 43 = .ok (.aload_n 1, 1) := by decide +kernel
theorem dX11_doAct_44 : decode cX11_doAct 44 = .ok (.getfield 370, 3) := by decide +kernel
theorem dX11_doAct_47 : decode cX11_doAct 47 = .ok (.bipush 6, 2) := by decide +kernel
theorem dX11_doAct_49 : decode cX11_doAct 49 = .ok (.if_icmp .ne 7, 3) := by decide +kernel
theorem dX11_doAct_52 : decode cX11_doAct 52 = .ok (.iload_n 2, 1) := by decide +kernel
theorem dX11_doAct_53 : decode cX11_doAct 53 = .ok (.goto 9, 3) := by decide +kernel
theorem dX11_doAct_56 : decode cX11_doAct 56 = .ok (.aload_n 1, 1) := by decide +kernel
theorem dX11_doAct_57 : decode cX11_doAct 57 = .ok (.getfield 373, 3) := by decide +kernel
theorem dX11_doAct_60 : decode cX11_doAct 60 = .ok (.iconst 0, 1) := by decide +kernel
theorem dX11_doAct_61 : decode cX11_doAct 61 = .ok (.iaload, 1) := by decide +kernel
theorem dX11_doAct_62 : decode cX11_doAct 62 = .ok (.aload_n 0, 1) := by decide +kernel
theorem dX11_doAct_63 : decode cX11_doAct 63 = .ok (.getfield 42, 3) := by decide +kernel
theorem dX11_doAct_66 : decode cX11_doAct 66 = .ok (.getfield 277, 3) := by decide +kernel
theorem dX11_doAct_69 : decode cX11_doAct 69 = .ok (.invokevirtual 461, 3) := by decide +kernel
theorem dX11_doAct_72 : decode cX11_doAct 72 = .ok (.aload_n 0, 1) := by decide +kernel
theorem dX11_doAct_73 : decode cX11_doAct 73 = .ok (.getfield 42, 3) := by decide +kernel
theorem dX11_doAct_76 : decode cX11_doAct 76 = .ok (.dup, 1) := by decide +kernel
theorem dX11_doAct_77 : decode cX11_doAct 77 = .ok (.getfield 290, 3) := by decide +kernel
theorem dX11_doAct_80 : decode cX11_doAct 80 = .ok (.iconst 1, 1) := by decide +kernel
theorem dX11_doAct_81 : decode cX11_doAct 81 = .ok (.iadd, 1) := by decide +kernel
theorem dX11_doAct_82 : decode cX11_doAct 82 = .ok (.putfield 290, 3) := by decide +kernel
theorem dX11_doAct_85 : decode cX11_doAct 85 = .ok (.iload_n 2, 1) := by decide +kernel
theorem dX11_doAct_86 : decode cX11_doAct 86 = .ok (.ireturn, 1) := by decide +kernel
theorem dX11_doOneYear_0 : decode cX11_doOneYear 0 = .ok (.aload_n 0, 1) := by decide +kernel
theorem dX11_doOneYear_1 : decode cX11_doOneYear 1 = .ok (.bipush 8, 2) := by decide +kernel
theorem dX11_doOneYear_3 : decode cX11_doOneYear 3 = .ok (.invokevirtual 465, 3) := by decide +kernel
theorem dX11_doOneYear_6 : decode cX11_doOneYear 6 = .ok (.istore_n 1, 1) := by decide +kernel
theorem dX11_doOneYear_7 : decode cX11_doOneYear 7 = .ok (.iload_n 1, 1) := by decide +kernel
theorem dX11_doOneYear_8 : decode cX11_doOneYear 8 = .ok (.iconst 3, 1) := by decide +kernel
theorem dX11_doOneYear_9 : decode cX11_doOneYear 9 = .ok (.if_icmp .gt 24, 3) := by decide +kernel
theorem dX11_doOneYear_12 : decode cX11_doOneYear 12 = .ok (.aload_n 0, 1) := by decide +kernel
theorem dX11_doOneYear_13 : decode cX11_doOneYear 13 = .ok (.getfield 89, 3) := by decide +kernel
theorem dX11_doOneYear_16 : decode cX11_doOneYear 16 = .ok (.iconst 0, 1) := by decide +kernel
theorem dX11_doOneYear_17 : decode cX11_doOneYear 17 = .ok (.aload_n 0, 1) := by decide +kernel
theorem dX11_doOneYear_18 : decode cX11_doOneYear 18 = .ok (.iconst 5, 1) := by decide +kernel
theorem dX11_doOneYear_19 : decode cX11_doOneYear 19 = .ok (.invokevirtual 465, 3) := by decide +kernel
theorem dX11_doOneYear_22 : decode cX11_doOneYear 22 = .ok (.iconst 1, 1) := by decide +kernel
theorem dX11_doOneYear_23 : decode cX11_doOneYear 23 = .ok (.iadd, 1) := by decide +kernel
theorem dX11_doOneYear_24 : decode cX11_doOneYear 24 = .ok (.iconst 0, 1) := by decide +kernel
theorem dX11_doOneYear_25 : decode cX11_doOneYear 25 = .ok (.iconst 0, 1) := by decide +kernel
theorem dX11_doOneYear_26 : decode cX11_doOneYear 26 = .ok (.lconst 0, 1) := by decide +kernel
theorem dX11_doOneYear_27 : decode cX11_doOneYear 27 = .ok (.invokevirtual 259, 3) := by decide +kernel
theorem dX11_doOneYear_30 : decode cX11_doOneYear 30 = .ok (.goto 41, 3) := by decide +kernel
theorem dX11_doOneYear_33 : decode cX11_doOneYear 33 = .ok (.iload_n 1, 1) := by decide +kernel
theorem dX11_doOneYear_34 : decode cX11_doOneYear 34 = .ok (.bipush 7, 2) := by decide +kernel
theorem dX11_doOneYear_36 : decode cX11_doOneYear 36 = .ok (.if_icmp .ne 19, 3) := by decide +kernel
theorem dX11_doOneYear_39 : decode cX11_doOneYear 39 = .ok (.aload_n 0, 1) := by decide +kernel
theorem dX11_doOneYear_40 : decode cX11_doOneYear 40 = .ok (.getfield 89, 3) := by decide +kernel
theorem dX11_doOneYear_43 : decode cX11_doOneYear 43 = .ok (.bipush 6, 2) := by decide +kernel
theorem dX11_doOneYear_45 : decode cX11_doOneYear 45 = .ok (.iconst 0, 1) := by decide +kernel
theorem dX11_doOneYear_46 : decode cX11_doOneYear 46 = .ok (.iconst 0, 1) := by decide +kernel
theorem dX11_doOneYear_47 : decode cX11_doOneYear 47 = .ok (.iconst 0, 1) := by decide +kernel
theorem dX11_doOneYear_48 : decode cX11_doOneYear 48 = .ok (.lconst 0, 1) := by decide +kernel
theorem dX11_doOneYear_49 : decode cX11_doOneYear 49 = .ok (.invokevirtual 259, 3) := by decide +kernel
theorem dX11_doOneYear_52 : decode cX11_doOneYear 52 = .ok (.goto 19, 3) := by decide +kernel
theorem dX11_doOneYear_55 : decode cX11_doOneYear 55 = .ok (.aload_n 0, 1) := by decide +kernel
theorem dX11_doOneYear_56 : decode cX11_doOneYear 56 = .ok (.getfield 24, 3) := by decide +kernel
theorem dX11_doOneYear_59 : decode cX11_doOneYear 59 = .ok (.getfield 414, 3) := by decide +kernel
theorem dX11_doOneYear_62 : decode cX11_doOneYear 62 = .ok (.ifCond .ne 4, 3) := by decide +kernel
theorem dX11_doOneYear_65 : decode cX11_doOneYear 65 = .ok (.return_, 1) := by decide +kernel
theorem dX11_doOneYear_66 : decode cX11_doOneYear 66 = .ok (.aload_n 0, 1) := by decide +kernel
theorem dX11_doOneYear_67 : decode cX11_doOneYear 67 = .ok (.iload_n 1, 1) := by decide +kernel
theorem dX11_doOneYear_68 : decode cX11_doOneYear 68 = .ok (.invokevirtual 468, 3) := by decide +kernel
theorem dX11_doOneYear_71 : decode cX11_doOneYear 71 = .ok (.aload_n 0, 1) := by decide +kernel
theorem dX11_doOneYear_72 : decode cX11_doOneYear 72 = .ok (.getfield 72, 3) := by decide +kernel
theorem dX11_doOneYear_75 : decode cX11_doOneYear 75 = .ok (.aload_n 0, 1) := by decide +kernel
theorem dX11_doOneYear_76 : decode cX11_doOneYear 76 = .ok (.getfield 24, 3) := by decide +kernel
theorem dX11_doOneYear_79 : decode cX11_doOneYear 79 = .ok (.aload_n 0, 1) := by decide +kernel
theorem dX11_doOneYear_80 : decode cX11_doOneYear 80 = .ok (.getfield 42, 3) := by decide +kernel
theorem dX11_doOneYear_83 : decode cX11_doOneYear 83 = .ok (.aload_n 0, 1) := by decide +kernel
theorem dX11_doOneYear_84 : decode cX11_doOneYear 84 = .ok (.getfield 89, 3) := by decide +kernel
theorem dX11_doOneYear_87 : decode cX11_doOneYear 87 = .ok (.invokevirtual 382, 3) := by decide +kernel
theorem dX11_doOneYear_90 : decode cX11_doOneYear 90 = .ok (.iconst (-1), 1) := by decide +kernel
theorem dX11_doOneYear_91 : decode cX11_doOneYear 91 = .ok (.if_icmp .ne 12, 3) := by decide +kernel
theorem dX11_doOneYear_94 : decode cX11_doOneYear 94 = .ok (.aload_n 0, 1) := by decide +kernel
theorem dX11_doOneYear_95 : decode cX11_doOneYear 95 = .ok (.aload_n 0, 1) := by decide +kernel
theorem dX11_doOneYear_96 : decode cX11_doOneYear 96 = .ok (.getfield 89, 3) := by decide +kernel
theorem dX11_doOneYear_99 : decode cX11_doOneYear 99 = .ok (.invokevirtual 386, 3) := by decide +kernel
theorem dX11_doOneYear_102 : decode cX11_doOneYear 102 = .ok (.pop, 1) := by decide +kernel
theorem dX11_doOneYear_103 : decode cX11_doOneYear 103 = .ok (.return_, 1) := by decide +kernel
theorem dX11_drawTaskAct_0 : decode cX11_drawTaskAct 0 = .ok (.aload_n 0, 1) := by decide +kernel
theorem dX11_drawTaskAct_1 : decode cX11_drawTaskAct 1 = .ok (.aload_n 0, 1) := by decide +kernel
theorem dX11_drawTaskAct_2 : decode cX11_drawTaskAct 2 = .ok (.getfield 24, 3) := by decide +kernel
theorem dX11_drawTaskAct_5 : decode cX11_drawTaskAct 5 = .ok (.getfield 414, 3) := by decide +kernel
theorem dX11_drawTaskAct_8 : decode cX11_drawTaskAct 8 = .ok (.invokevirtual 465, 3) := by decide +kernel
theorem dX11_drawTaskAct_11 : decode cX11_drawTaskAct 11 = .ok (.istore_n 2, 1) := by decide +kernel
theorem dX11_drawTaskAct_12 : decode cX11_drawTaskAct 12 = .ok (.iload_n 1, 1) := by decide +kernel
theorem dX11_drawTaskAct_13 : decode cX11_drawTaskAct 13 = .ok (.bipush 6, 2) := by decide +kernel
theorem dX11_drawTaskAct_15 : decode cX11_drawTaskAct 15 = .ok (.if_icmp .ne 33, 3) := by decide +kernel
theorem dX11_drawTaskAct_18 : decode cX11_drawTaskAct 18 = .ok (.aload_n 0, 1) := by decide +kernel
theorem dX11_drawTaskAct_19 : decode cX11_drawTaskAct 19 = .ok (.getfield 89, 3) := by decide +kernel
theorem dX11_drawTaskAct_22 : decode cX11_drawTaskAct 22 = .ok (.aload_n 0, 1) := by decide +kernel
theorem dX11_drawTaskAct_23 : decode cX11_drawTaskAct 23 = .ok (.getfield 42, 3) := by decide +kernel
theorem dX11_drawTaskAct_26 : decode cX11_drawTaskAct 26 = .ok (.iload_n 2, 1) := by decide +kernel
theorem dX11_drawTaskAct_27 : decode cX11_drawTaskAct 27 = .ok (.invokevirtual 451, 3) := by decide +kernel
theorem dX11_drawTaskAct_30 : decode cX11_drawTaskAct 30 = .ok (.ifCond .eq 7, 3) := by decide +kernel
theorem dX11_drawTaskAct_33 : decode cX11_drawTaskAct 33 = .ok (.iconst 5, 1) := by decide +kernel
theorem dX11_drawTaskAct_34 : decode cX11_drawTaskAct 34 = .ok (.goto 4, 3) := by decide +kernel
theorem dX11_drawTaskAct_37 : decode cX11_drawTaskAct 37 = .ok (.iconst 4, 1) := by decide +kernel
theorem dX11_drawTaskAct_38 : decode cX11_drawTaskAct 38 = .ok (.iload_n 2, 1) := by decide +kernel
theorem dX11_drawTaskAct_39 : decode cX11_drawTaskAct 39 = .ok (.iconst 0, 1) := by decide +kernel
theorem dX11_drawTaskAct_40 : decode cX11_drawTaskAct 40 = .ok (.iconst 0, 1) := by decide +kernel
theorem dX11_drawTaskAct_41 : decode cX11_drawTaskAct 41 = .ok (.lconst 0, 1) := by decide +kernel
theorem dX11_drawTaskAct_42 : decode cX11_drawTaskAct 42 = .ok (.invokevirtual 259, 3) := by decide +kernel
theorem dX11_drawTaskAct_45 : decode cX11_drawTaskAct 45 = .ok (.goto 25, 3) := by decide +kernel
theorem dX11_drawTaskAct_48 : decode cX11_drawTaskAct 48 = .ok (.aload_n 0, 1) := by decide +kernel
theorem dX11_drawTaskAct_49 : decode cX11_drawTaskAct 49 = .ok (.getfield 89, 3) := by decide +kernel
theorem dX11_drawTaskAct_52 : decode cX11_drawTaskAct 52 = .ok (.iconst 1, 1) := by decide +kernel
theorem dX11_drawTaskAct_53 : decode cX11_drawTaskAct 53 = .ok (.iload_n 2, 1) := by decide +kernel
theorem dX11_drawTaskAct_54 : decode cX11_drawTaskAct 54 = .ok (.aload_n 0, 1) := by decide +kernel
theorem dX11_drawTaskAct_55 : decode cX11_drawTaskAct 55 = .ok (.aload_n 0, 1) := by decide +kernel
theorem dX11_drawTaskAct_56 : decode cX11_drawTaskAct 56 = .ok (.getfield 24, 3) := by decide +kernel
theorem dX11_drawTaskAct_59 : decode cX11_drawTaskAct 59 = .ok (.getfield 150, 3) := by decide +kernel
theorem dX11_drawTaskAct_62 : decode cX11_drawTaskAct 62 = .ok (.invokevirtual 465, 3) := by decide +kernel
theorem dX11_drawTaskAct_65 : decode cX11_drawTaskAct 65 = .ok (.iconst 0, 1) := by decide +kernel
theorem dX11_drawTaskAct_66 : decode cX11_drawTaskAct 66 = .ok (.lconst 0, 1) := by decide +kernel
theorem dX11_drawTaskAct_67 : decode cX11_drawTaskAct 67 = .ok (.invokevirtual 259, 3) := by decide +kernel
theorem dX11_drawTaskAct_70 : decode cX11_drawTaskAct 70 = .ok (.return_, 1) := by decide +kernel
theorem dX11_draw_0 : decode cX11_draw 0 = .ok (.aload_n 0, 1) := by decide +kernel
theorem dX11_draw_1 : decode cX11_draw 1 = .ok (.aload_n 0, 1) := by decide +kernel
theorem dX11_draw_2 : decode cX11_draw 2 = .ok (.getfield 270, 3) := by decide +kernel
theorem dX11_draw_5 : decode cX11_draw 5 = .ok (.ldc2_w 471, 3) := by decide +kernel
theorem dX11_draw_8 : decode cX11_draw 8 = .ok (.lmul, 1) := by decide +kernel
theorem dX11_draw_9 : decode cX11_draw 9 = .ok (.ldc2_w 473, 3) := by decide +kernel
theorem dX11_draw_12 : decode cX11_draw 12 = .ok (.ladd, 1) := by decide +kernel
theorem dX11_draw_13 : decode cX11_draw 13 = .ok (.putfield 270, 3) := by decide +kernel
theorem dX11_draw_16 : decode cX11_draw 16 = .ok (.iload_n 1, 1) := by decide +kernel
theorem dX11_draw_17 : decode cX11_draw 17 = .ok (.iconst 1, 1) := by decide +kernel
theorem dX11_draw_18 : decode cX11_draw 18 = .ok (.if_icmp .ge 7, 3) := by decide +kernel
theorem dX11_draw_21 : decode cX11_draw 21 = .ok (.iconst 0, 1) := by decide +kernel
theorem dX11_draw_22 : decode cX11_draw 22 = .ok (.goto 14, 3) := by decide +kernel
theorem dX11_draw_25 : decode cX11_draw 25 = .ok (.aload_n 0, 1) := by decide +kernel
theorem dX11_draw_26 : decode cX11_draw 26 = .ok (.getfield 270, 3) := by decide +kernel
theorem dX11_draw_29 : decode cX11_draw 29 = .ok (.bipush 33, 2) := by decide +kernel
theorem dX11_draw_31 : decode cX11_draw 31 = .ok (.lushr, 1) := by decide +kernel
theorem dX11_draw_32 : decode cX11_draw 32 = .ok (.iload_n 1, 1) := by decide +kernel
theorem dX11_draw_33 : decode cX11_draw 33 = .ok (.i2l, 1) := by decide +kernel
theorem dX11_draw_34 : decode cX11_draw 34 = .ok (.lrem, 1) := by decide +kernel
theorem dX11_draw_35 : decode cX11_draw 35 = .ok (.l2i, 1) := by decide +kernel
theorem dX11_draw_36 : decode cX11_draw 36 = .ok (.ireturn, 1) := by decide +kernel
theorem dX11_runOnTrial_0 : decode cX11_runOnTrial 0 = .ok (.iconst 0, 1) := by decide +kernel
theorem dX11_runOnTrial_1 : decode cX11_runOnTrial 1 = .ok (.istore_n 2, 1) := by decide +kernel
theorem dX11_runOnTrial_2 : decode cX11_runOnTrial 2 = .ok (.iload_n 2, 1) := by decide +kernel
theorem dX11_runOnTrial_3 : decode cX11_runOnTrial 3 = .ok (.aload_n 1, 1) := by decide +kernel
theorem dX11_runOnTrial_4 : decode cX11_runOnTrial 4 = .ok (.getfield 363, 3) := by decide +kernel
theorem dX11_runOnTrial_7 : decode cX11_runOnTrial 7 = .ok (.if_icmp .ge 58, 3) := by decide +kernel
theorem dX11_runOnTrial_10 : decode cX11_runOnTrial 10 = .ok (.aload_n 0, 1) := by decide +kernel
theorem dX11_runOnTrial_11 : decode cX11_runOnTrial 11 = .ok (.getfield 72, 3) := by decide +kernel
theorem dX11_runOnTrial_14 : decode cX11_runOnTrial 14 = .ok (.aload_n 0, 1) := by decide +kernel
theorem dX11_runOnTrial_15 : decode cX11_runOnTrial 15 = .ok (.getfield 24, 3) := by decide +kernel
theorem dX11_runOnTrial_18 : decode cX11_runOnTrial 18 = .ok (.aload_n 0, 1) := by decide +kernel
theorem dX11_runOnTrial_19 : decode cX11_runOnTrial 19 = .ok (.getfield 46, 3) := by decide +kernel
theorem dX11_runOnTrial_22 : decode cX11_runOnTrial 22 = .ok (.aload_n 1, 1) := by decide +kernel
theorem dX11_runOnTrial_23 : decode cX11_runOnTrial 23 = .ok (.getfield 366, 3) := by decide +kernel
theorem dX11_runOnTrial_26 : decode cX11_runOnTrial 26 = .ok (.iload_n 2, 1) := by decide +kernel
theorem dX11_runOnTrial_27 : decode cX11_runOnTrial 27 = .ok (.aaload, 1) := by decide +kernel
theorem dX11_runOnTrial_28 : decode cX11_runOnTrial 28 = .ok (.invokevirtual 382, 3) := by decide +kernel
theorem dX11_runOnTrial_31 : decode cX11_runOnTrial 31 = .ok (.iconst (-1), 1) := by decide +kernel
theorem dX11_runOnTrial_32 : decode cX11_runOnTrial 32 = .ok (.if_icmp .eq 5, 3) := by decide +kernel
theorem dX11_runOnTrial_35 : decode cX11_runOnTrial 35 = .ok (.iload_n 2, 1) := by decide +kernel
theorem dX11_runOnTrial_36 : decode cX11_runOnTrial 36 = .ok (.ireturn, 1) := by decide +kernel
theorem dX11_runOnTrial_37 : decode cX11_runOnTrial 37 = .ok (.aload_n 0, 1) := by decide +kernel
theorem dX11_runOnTrial_38 : decode cX11_runOnTrial 38 = .ok (.getfield 72, 3) := by decide +kernel
theorem dX11_runOnTrial_41 : decode cX11_runOnTrial 41 = .ok (.aload_n 0, 1) := by decide +kernel
theorem dX11_runOnTrial_42 : decode cX11_runOnTrial 42 = .ok (.getfield 24, 3) := by decide +kernel
theorem dX11_runOnTrial_45 : decode cX11_runOnTrial 45 = .ok (.aload_n 0, 1) := by decide +kernel
theorem dX11_runOnTrial_46 : decode cX11_runOnTrial 46 = .ok (.getfield 46, 3) := by decide +kernel
theorem dX11_runOnTrial_49 : decode cX11_runOnTrial 49 = .ok (.aload_n 1, 1) := by decide +kernel
theorem dX11_runOnTrial_50 : decode cX11_runOnTrial 50 = .ok (.getfield 366, 3) := by decide +kernel
theorem dX11_runOnTrial_53 : decode cX11_runOnTrial 53 = .ok (.iload_n 2, 1) := by decide +kernel
theorem dX11_runOnTrial_54 : decode cX11_runOnTrial 54 = .ok (.aaload, 1) := by decide +kernel
theorem dX11_runOnTrial_55 : decode cX11_runOnTrial 55 = .ok (.invokevirtual 458, 3) := by decide +kernel
theorem dX11_runOnTrial_58 : decode cX11_runOnTrial 58 = .ok (.pop, 1) := by decide +kernel
theorem dX11_runOnTrial_59 : decode cX11_runOnTrial 59 = .ok (.iinc 2 1, 3) := by decide +kernel
theorem dX11_runOnTrial_62 : decode cX11_runOnTrial 62 = .ok (.goto (-60), 3) := by decide +kernel
theorem dX11_runOnTrial_65 : decode cX11_runOnTrial 65 = .ok (.aload_n 1, 1) := by decide +kernel
theorem dX11_runOnTrial_66 : decode cX11_runOnTrial 66 = .ok (.getfield 363, 3) := by decide +kernel
theorem dX11_runOnTrial_69 : decode cX11_runOnTrial 69 = .ok (.ireturn, 1) := by decide +kernel
theorem dX11_letterOf_0 : decode cX11_letterOf 0 = .ok (.iconst 0, 1) := by decide +kernel
theorem dX11_letterOf_1 : decode cX11_letterOf 1 = .ok (.istore_n 3, 1) := by decide +kernel
theorem dX11_letterOf_2 : decode cX11_letterOf 2 = .ok (.iconst 0, 1) := by decide +kernel
theorem dX11_letterOf_3 : decode cX11_letterOf 3 = .ok (.istore 4, 2) := by decide +kernel
theorem dX11_letterOf_5 : decode cX11_letterOf 5 = .ok (.iload 4, 2) := by decide +kernel
theorem dX11_letterOf_7 : decode cX11_letterOf 7 = .ok (.bipush 56, 2) := by decide +kernel
theorem dX11_letterOf_9 : decode cX11_letterOf 9 = .ok (.if_icmp .ge 25, 3) := by decide +kernel
theorem dX11_letterOf_12 : decode cX11_letterOf 12 = .ok (.lload_n 0, 1) := by decide +kernel
theorem dX11_letterOf_13 : decode cX11_letterOf 13 = .ok (.iload 4, 2) := by decide +kernel
theorem dX11_letterOf_15 : decode cX11_letterOf 15 = .ok (.lushr, 1) := by decide +kernel
theorem dX11_letterOf_16 : decode cX11_letterOf 16 = .ok (.ldc2_w 475, 3) := by decide +kernel
theorem dX11_letterOf_19 : decode cX11_letterOf 19 = .ok (.land, 1) := by decide +kernel
theorem dX11_letterOf_20 : decode cX11_letterOf 20 = .ok (.lconst 0, 1) := by decide +kernel
theorem dX11_letterOf_21 : decode cX11_letterOf 21 = .ok (.lcmp, 1) := by decide +kernel
theorem dX11_letterOf_22 : decode cX11_letterOf 22 = .ok (.ifCond .eq 6, 3) := by decide +kernel
theorem dX11_letterOf_25 : decode cX11_letterOf 25 = .ok (.iinc 3 1, 3) := by decide +kernel
theorem dX11_letterOf_28 : decode cX11_letterOf 28 = .ok (.iinc 4 8, 3) := by decide +kernel
theorem dX11_letterOf_31 : decode cX11_letterOf 31 = .ok (.goto (-26), 3) := by decide +kernel
theorem dX11_letterOf_34 : decode cX11_letterOf 34 = .ok (.iload_n 2, 1) := by decide +kernel
theorem dX11_letterOf_35 : decode cX11_letterOf 35 = .ok (.ifCond .lt 8, 3) := by decide +kernel
theorem dX11_letterOf_38 : decode cX11_letterOf 38 = .ok (.iload_n 2, 1) := by decide +kernel
theorem dX11_letterOf_39 : decode cX11_letterOf 39 = .ok (.iload_n 3, 1) := by decide +kernel
theorem dX11_letterOf_40 : decode cX11_letterOf 40 = .ok (.if_icmp .lt 5, 3) := by decide +kernel
theorem dX11_letterOf_43 : decode cX11_letterOf 43 = .ok (.iconst (-1), 1) := by decide +kernel
theorem dX11_letterOf_44 : decode cX11_letterOf 44 = .ok (.ireturn, 1) := by decide +kernel
theorem dX11_letterOf_45 : decode cX11_letterOf 45 = .ok (.lload_n 0, 1) := by decide +kernel
theorem dX11_letterOf_46 : decode cX11_letterOf 46 = .ok (.bipush 8, 2) := by decide +kernel
theorem dX11_letterOf_48 : decode cX11_letterOf 48 = .ok (.iload_n 3, 1) := by decide +kernel
theorem dX11_letterOf_49 : decode cX11_letterOf 49 = .ok (.iconst 1, 1) := by decide +kernel
theorem dX11_letterOf_50 : decode cX11_letterOf 50 = .ok (.isub, 1) := by decide +kernel
theorem dX11_letterOf_51 : decode cX11_letterOf 51 = .ok (.iload_n 2, 1) := by decide +kernel
theorem dX11_letterOf_52 : decode cX11_letterOf 52 = .ok (.isub, 1) := by decide +kernel
theorem dX11_letterOf_53 : decode cX11_letterOf 53 = .ok (.imul, 1) := by decide +kernel
theorem dX11_letterOf_54 : decode cX11_letterOf 54 = .ok (.lushr, 1) := by decide +kernel
theorem dX11_letterOf_55 : decode cX11_letterOf 55 = .ok (.ldc2_w 475, 3) := by decide +kernel
theorem dX11_letterOf_58 : decode cX11_letterOf 58 = .ok (.land, 1) := by decide +kernel
theorem dX11_letterOf_59 : decode cX11_letterOf 59 = .ok (.l2i, 1) := by decide +kernel
theorem dX11_letterOf_60 : decode cX11_letterOf 60 = .ok (.ireturn, 1) := by decide +kernel
theorem dX11_bitOf_0 : decode cX11_bitOf 0 = .ok (.iload_n 1, 1) := by decide +kernel
theorem dX11_bitOf_1 : decode cX11_bitOf 1 = .ok (.ifCond .lt 9, 3) := by decide +kernel
theorem dX11_bitOf_4 : decode cX11_bitOf 4 = .ok (.iload_n 1, 1) := by decide +kernel
theorem dX11_bitOf_5 : decode cX11_bitOf 5 = .ok (.bipush 31, 2) := by decide +kernel
theorem dX11_bitOf_7 : decode cX11_bitOf 7 = .ok (.if_icmp .le 7, 3) := by decide +kernel
theorem dX11_bitOf_10 : decode cX11_bitOf 10 = .ok (.iconst 0, 1) := by decide +kernel
theorem dX11_bitOf_11 : decode cX11_bitOf 11 = .ok (.goto 8, 3) := by decide +kernel
theorem dX11_bitOf_14 : decode cX11_bitOf 14 = .ok (.iload_n 0, 1) := by decide +kernel
theorem dX11_bitOf_15 : decode cX11_bitOf 15 = .ok (.iload_n 1, 1) := by decide +kernel
theorem dX11_bitOf_16 : decode cX11_bitOf 16 = .ok (.iushr, 1) := by decide +kernel
theorem dX11_bitOf_17 : decode cX11_bitOf 17 = .ok (.iconst 1, 1) := by decide +kernel
theorem dX11_bitOf_18 : decode cX11_bitOf 18 = .ok (.iand, 1) := by decide +kernel
theorem dX11_bitOf_19 : decode cX11_bitOf 19 = .ok (.ireturn, 1) := by decide +kernel
theorem dX11_withBit_0 : decode cX11_withBit 0 = .ok (.iload_n 1, 1) := by decide +kernel
theorem dX11_withBit_1 : decode cX11_withBit 1 = .ok (.ifCond .lt 9, 3) := by decide +kernel
theorem dX11_withBit_4 : decode cX11_withBit 4 = .ok (.iload_n 1, 1) := by decide +kernel
theorem dX11_withBit_5 : decode cX11_withBit 5 = .ok (.bipush 31, 2) := by decide +kernel
theorem dX11_withBit_7 : decode cX11_withBit 7 = .ok (.if_icmp .le 5, 3) := by decide +kernel
theorem dX11_withBit_10 : decode cX11_withBit 10 = .ok (.iload_n 0, 1) := by decide +kernel
theorem dX11_withBit_11 : decode cX11_withBit 11 = .ok (.ireturn, 1) := by decide +kernel
theorem dX11_withBit_12 : decode cX11_withBit 12 = .ok (.iload_n 2, 1) := by decide +kernel
theorem dX11_withBit_13 : decode cX11_withBit 13 = .ok (.ifCond .eq 11, 3) := by decide +kernel
theorem dX11_withBit_16 : decode cX11_withBit 16 = .ok (.iload_n 0, 1) := by decide +kernel
theorem dX11_withBit_17 : decode cX11_withBit 17 = .ok (.iconst 1, 1) := by decide +kernel
theorem dX11_withBit_18 : decode cX11_withBit 18 = .ok (.iload_n 1, 1) := by decide +kernel
theorem dX11_withBit_19 : decode cX11_withBit 19 = .ok (.ishl, 1) := by decide +kernel
theorem dX11_withBit_20 : decode cX11_withBit 20 = .ok (.ior, 1) := by decide +kernel
theorem dX11_withBit_21 : decode cX11_withBit 21 = .ok (.goto 10, 3) := by decide +kernel
theorem dX11_withBit_24 : decode cX11_withBit 24 = .ok (.iload_n 0, 1) := by decide +kernel
theorem dX11_withBit_25 : decode cX11_withBit 25 = .ok (.iconst 1, 1) := by decide +kernel
theorem dX11_withBit_26 : decode cX11_withBit 26 = .ok (.iload_n 1, 1) := by decide +kernel
theorem dX11_withBit_27 : decode cX11_withBit 27 = .ok (.ishl, 1) := by decide +kernel
theorem dX11_withBit_28 : decode cX11_withBit 28 = .ok (.iconst (-1), 1) := by decide +kernel
theorem dX11_withBit_29 : decode cX11_withBit 29 = .ok (.ixor, 1) := by decide +kernel
theorem dX11_withBit_30 : decode cX11_withBit 30 = .ok (.iand, 1) := by decide +kernel
theorem dX11_withBit_31 : decode cX11_withBit 31 = .ok (.ireturn, 1) := by decide +kernel
theorem dX11_roundedUp_0 : decode cX11_roundedUp 0 = .ok (.iload_n 1, 1) := by decide +kernel
theorem dX11_roundedUp_1 : decode cX11_roundedUp 1 = .ok (.iconst 1, 1) := by decide +kernel
theorem dX11_roundedUp_2 : decode cX11_roundedUp 2 = .ok (.if_icmp .ge 7, 3) := by decide +kernel
theorem dX11_roundedUp_5 : decode cX11_roundedUp 5 = .ok (.iconst 0, 1) := by decide +kernel
theorem dX11_roundedUp_6 : decode cX11_roundedUp 6 = .ok (.goto 10, 3) := by decide +kernel
theorem dX11_roundedUp_9 : decode cX11_roundedUp 9 = .ok (.iload_n 0, 1) := by decide +kernel
theorem dX11_roundedUp_10 : decode cX11_roundedUp 10 = .ok (.iload_n 1, 1) := by decide +kernel
theorem dX11_roundedUp_11 : decode cX11_roundedUp 11 = .ok (.iadd, 1) := by decide +kernel
theorem dX11_roundedUp_12 : decode cX11_roundedUp 12 = .ok (.iconst 1, 1) := by decide +kernel
theorem dX11_roundedUp_13 : decode cX11_roundedUp 13 = .ok (.isub, 1) := by decide +kernel
theorem dX11_roundedUp_14 : decode cX11_roundedUp 14 = .ok (.iload_n 1, 1) := by decide +kernel
theorem dX11_roundedUp_15 : decode cX11_roundedUp 15 = .ok (.idiv, 1) := by decide +kernel
theorem dX11_roundedUp_16 : decode cX11_roundedUp 16 = .ok (.ireturn, 1) := by decide +kernel
theorem dX11_cut_0 : decode cX11_cut 0 = .ok (.iload_n 1, 1) := by decide +kernel
theorem dX11_cut_1 : decode cX11_cut 1 = .ok (.iconst 1, 1) := by decide +kernel
theorem dX11_cut_2 : decode cX11_cut 2 = .ok (.if_icmp .ge 7, 3) := by decide +kernel
theorem dX11_cut_5 : decode cX11_cut 5 = .ok (.iconst 0, 1) := by decide +kernel
theorem dX11_cut_6 : decode cX11_cut 6 = .ok (.goto 6, 3) := by decide +kernel
theorem dX11_cut_9 : decode cX11_cut 9 = .ok (.iload_n 0, 1) := by decide +kernel
theorem dX11_cut_10 : decode cX11_cut 10 = .ok (.iload_n 1, 1) := by decide +kernel
theorem dX11_cut_11 : decode cX11_cut 11 = .ok (.idiv, 1) := by decide +kernel
theorem dX11_cut_12 : decode cX11_cut 12 = .ok (.ireturn, 1) := by decide +kernel
