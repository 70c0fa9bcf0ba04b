theorem dX3_readSettings_102 : decode cX3_readSettings 102 = .ok (.ireturn, 1) := by decide +kernel
theorem dX3_readTongueSetting_0 : decode cX3_readTongueSetting 0 = .ok (.aload_n 0, 1) := by decide +kernel
theorem dX3_readTongueSetting_1 : decode cX3_readTongueSetting 1 = .ok (.getfield 24, 3) := by decide +kernel
theorem dX3_readTongueSetting_4 : decode cX3_readTongueSetting 4 = .ok (.getfield 57, 3) := by decide +kernel
theorem dX3_readTongueSetting_7 : decode cX3_readTongueSetting 7 = .ok (.istore 4, 2) := by decide +kernel
theorem dX3_readTongueSetting_9 : decode cX3_readTongueSetting 9 = .ok (.aload_n 0, 1) := by decide +kernel
theorem dX3_readTongueSetting_10 : decode cX3_readTongueSetting 10 = .ok (.getfield 24, 3) := by decide +kernel
theorem dX3_readTongueSetting_13 : decode cX3_readTongueSetting 13 = .ok (.invokevirtual 64, 3) := by decide +kernel
theorem dX3_readTongueSetting_16 : decode cX3_readTongueSetting 16 = .ok (.aload_n 0, 1) := by decide +kernel
theorem dX3_readTongueSetting_17 : decode cX3_readTongueSetting 17 = .ok (.iconst 0, 1) := by decide +kernel
theorem dX3_readTongueSetting_18 : decode cX3_readTongueSetting 18 = .ok (.aload_n 0, 1) := by decide +kernel
theorem dX3_readTongueSetting_19 : decode cX3_readTongueSetting 19 = .ok (.getfield 15, 3) := by decide +kernel
theorem dX3_readTongueSetting_22 : decode cX3_readTongueSetting 22 = .ok (.getfield 73, 3) := by decide +kernel
theorem dX3_readTongueSetting_25 : decode cX3_readTongueSetting 25 = .ok (.iconst 1, 1) := by decide +kernel
theorem dX3_readTongueSetting_26 : decode cX3_readTongueSetting 26 = .ok (.isub, 1) := by decide +kernel
theorem dX3_readTongueSetting_27 : decode cX3_readTongueSetting 27 = .ok (.invokevirtual 67, 3) := by decide +kernel
theorem dX3_readTongueSetting_30 : decode cX3_readTongueSetting 30 = .ok (.ifCond .ne 5, 3) := by decide +kernel
theorem dX3_readTongueSetting_33 : decode cX3_readTongueSetting 33 = .ok (.iconst 0, 1) := by decide +kernel
theorem dX3_readTongueSetting_34 : decode cX3_readTongueSetting 34 = .ok (.ireturn, 1) := by decide +kernel
theorem dX3_readTongueSetting_35 : decode cX3_readTongueSetting 35 = .ok (.aload_n 0, 1) := by decide +kernel
theorem dX3_readTongueSetting_36 : decode cX3_readTongueSetting 36 = .ok (.getfield 70, 3) := by decide +kernel
theorem dX3_readTongueSetting_39 : decode cX3_readTongueSetting 39 = .ok (.istore 5, 2) := by decide +kernel
theorem dX3_readTongueSetting_41 : decode cX3_readTongueSetting 41 = .ok (.aload_n 0, 1) := by decide +kernel
theorem dX3_readTongueSetting_42 : decode cX3_readTongueSetting 42 = .ok (.getfield 15, 3) := by decide +kernel
theorem dX3_readTongueSetting_45 : decode cX3_readTongueSetting 45 = .ok (.aload_n 1, 1) := by decide +kernel
theorem dX3_readTongueSetting_46 : decode cX3_readTongueSetting 46 = .ok (.iload 5, 2) := by decide +kernel
theorem dX3_readTongueSetting_48 : decode cX3_readTongueSetting 48 = .ok (.invokevirtual 107, 3) := by decide +kernel
theorem dX3_readTongueSetting_51 : decode cX3_readTongueSetting 51 = .ok (.ifCond .eq 11, 3) := by decide +kernel
theorem dX3_readTongueSetting_54 : decode cX3_readTongueSetting 54 = .ok (.aload_n 0, 1) := by decide +kernel
theorem dX3_readTongueSetting_55 : decode cX3_readTongueSetting 55 = .ok (.iconst 3, 1) := by decide +kernel
theorem dX3_readTongueSetting_56 : decode cX3_readTongueSetting 56 = .ok (.iload 4, 2) := by decide +kernel
theorem dX3_readTongueSetting_58 : decode cX3_readTongueSetting 58 = .ok (.invokevirtual 60, 3) := by decide +kernel
theorem dX3_readTongueSetting_61 : decode cX3_readTongueSetting 61 = .ok (.ireturn, 1) := by decide +kernel
theorem dX3_readTongueSetting_62 : decode cX3_readTongueSetting 62 = .ok (.aload_n 0, 1) := by decide +kernel
theorem dX3_readTongueSetting_63 : decode cX3_readTongueSetting 63 = .ok (.iload_n 2, 1) := by decide +kernel
theorem dX3_readTongueSetting_64 : decode cX3_readTongueSetting 64 = .ok (.iload_n 3, 1) := by decide +kernel
theorem dX3_readTongueSetting_65 : decode cX3_readTongueSetting 65 = .ok (.invokevirtual 67, 3) := by decide +kernel
theorem dX3_readTongueSetting_68 : decode cX3_readTongueSetting 68 = .ok (.ifCond .ne 5, 3) := by decide +kernel
theorem dX3_readTongueSetting_71 : decode cX3_readTongueSetting 71 = .ok (.iconst 0, 1) := by decide +kernel
theorem dX3_readTongueSetting_72 : decode cX3_readTongueSetting 72 = .ok (.ireturn, 1) := by decide +kernel
theorem dX3_readTongueSetting_73 : decode cX3_readTongueSetting 73 = .ok (.aload_n 0, 1) := by decide +kernel
theorem dX3_readTongueSetting_74 : decode cX3_readTongueSetting 74 = .ok (.getfield 15, 3) := by decide +kernel
theorem dX3_readTongueSetting_77 : decode cX3_readTongueSetting 77 = .ok (.aload_n 1, 1) := by decide +kernel
theorem dX3_readTongueSetting_78 : decode cX3_readTongueSetting 78 = .ok (.iload 5, 2) := by decide +kernel
theorem dX3_readTongueSetting_80 : decode cX3_readTongueSetting 80 = .ok (.aload_n 0, 1) := by decide +kernel
theorem dX3_readTongueSetting_81 : decode cX3_readTongueSetting 81 = .ok (.getfield 70, 3) := by decide +kernel
theorem dX3_readTongueSetting_84 : decode cX3_readTongueSetting 84 = .ok (.invokevirtual 111, 3) := by decide +kernel
theorem dX3_readTongueSetting_87 : decode cX3_readTongueSetting 87 = .ok (.aload_n 0, 1) := by decide +kernel
theorem dX3_readTongueSetting_88 : decode cX3_readTongueSetting 88 = .ok (.invokevirtual 75, 3) := by decide +kernel
theorem dX3_readTongueSetting_91 : decode cX3_readTongueSetting 91 = .ok (.ireturn, 1) := by decide +kernel
theorem dX3_readBeats_0 : decode cX3_readBeats 0 = .ok (.aload_n 0, 1) := by decide +kernel
theorem dX3_readBeats_1 : decode cX3_readBeats 1 = .ok (.getfield 15, 3) := by decide +kernel
theorem dX3_readBeats_4 : decode cX3_readBeats 4 = .ok (.invokevirtual 115, 3) := by decide +kernel
theorem dX3_readBeats_7 : decode cX3_readBeats 7 = .ok (.ifCond .eq 16, 3) := by decide +kernel
theorem dX3_readBeats_10 : decode cX3_readBeats 10 = .ok (.aload_n 0, 1) := by decide +kernel
theorem dX3_readBeats_11 : decode cX3_readBeats 11 = .ok (.iconst 3, 1) := by decide +kernel
theorem dX3_readBeats_12 : decode cX3_readBeats 12 = .ok (.aload_n 0, 1) := by decide +kernel
theorem dX3_readBeats_13 : decode cX3_readBeats 13 = .ok (.getfield 24, 3) := by decide +kernel
theorem dX3_readBeats_16 : decode cX3_readBeats 16 = .ok (.getfield 57, 3) := by decide +kernel
theorem dX3_readBeats_19 : decode cX3_readBeats 19 = .ok (.invokevirtual 60, 3) := by decide +kernel
theorem dX3_readBeats_22 : decode cX3_readBeats 22 = .ok (.ireturn, 1) := by decide +kernel
theorem dX3_readBeats_23 : decode cX3_readBeats 23 = .ok (.aload_n 0, 1) := by decide +kernel
theorem dX3_readBeats_24 : decode cX3_readBeats 24 = .ok (.getfield 24, 3) := by decide +kernel
theorem dX3_readBeats_27 : decode cX3_readBeats 27 = .ok (.invokevirtual 64, 3) := by decide +kernel
theorem dX3_readBeats_30 : decode cX3_readBeats 30 = .ok (.aload_n 0, 1) := by decide +kernel
theorem dX3_readBeats_31 : decode cX3_readBeats 31 = .ok (.iconst 1, 1) := by decide +kernel
theorem dX3_readBeats_32 : decode cX3_readBeats 32 = .ok (.bipush 8, 2) := by decide +kernel
theorem dX3_readBeats_34 : decode cX3_readBeats 34 = .ok (.invokevirtual 67, 3) := by decide +kernel
theorem dX3_readBeats_37 : decode cX3_readBeats 37 = .ok (.ifCond .ne 5, 3) := by decide +kernel
theorem dX3_readBeats_40 : decode cX3_readBeats 40 = .ok (.iconst 0, 1) := by decide +kernel
theorem dX3_readBeats_41 : decode cX3_readBeats 41 = .ok (.ireturn, 1) := by decide +kernel
theorem dX3_readBeats_42 : decode cX3_readBeats 42 = .ok (.aload_n 0, 1) := by decide +kernel
theorem dX3_readBeats_43 : decode cX3_readBeats 43 = .ok (.getfield 15, 3) := by decide +kernel
theorem dX3_readBeats_46 : decode cX3_readBeats 46 = .ok (.aload_n 0, 1) := by decide +kernel
theorem dX3_readBeats_47 : decode cX3_readBeats 47 = .ok (.getfield 70, 3) := by decide +kernel
theorem dX3_readBeats_50 : decode cX3_readBeats 50 = .ok (.invokevirtual 118, 3) := by decide +kernel
theorem dX3_readBeats_53 : decode cX3_readBeats 53 = .ok (.aload_n 0, 1) := by decide +kernel
theorem dX3_readBeats_54 : decode cX3_readBeats 54 = .ok (.invokevirtual 75, 3) := by decide +kernel
theorem dX3_readBeats_57 : decode cX3_readBeats 57 = .ok (.ireturn, 1) := by decide +kernel
theorem dX3_readItems_0 : decode cX3_readItems 0 = .ok (.iconst 0, 1) := by decide +kernel
theorem dX3_readItems_1 : decode cX3_readItems 1 = .ok (.istore_n 2, 1) := by decide +kernel
theorem dX3_readItems_2 : decode cX3_readItems 2 = .ok (.iload_n 2, 1) := by decide +kernel
theorem dX3_readItems_3 : decode cX3_readItems 3 = .ok (.iload_n 1, 1) := by decide +kernel
theorem dX3_readItems_4 : decode cX3_readItems 4 = .ok (.if_icmp .ge 142, 3) := by decide +kernel
theorem dX3_readItems_7 : decode cX3_readItems 7 = .ok (.aload_n 0, 1) := by decide +kernel
theorem dX3_readItems_8 : decode cX3_readItems 8 = .ok (.getfield 24, 3) := by decide +kernel
theorem dX3_readItems_11 : decode cX3_readItems 11 = .ok (.getfield 78, 3) := by decide +kernel
theorem dX3_readItems_14 : decode cX3_readItems 14 = .ok (.ifCond .eq 132, 3) := by decide +kernel
theorem dX3_readItems_17 : decode cX3_readItems 17 = .ok (.aload_n 0, 1) := by decide +kernel
theorem dX3_readItems_18 : decode cX3_readItems 18 = .ok (.getfield 24, 3) := by decide +kernel
theorem dX3_readItems_21 : decode cX3_readItems 21 = .ok (.ldc 122, 2) := by decide +kernel
theorem dX3_readItems_23 : decode cX3_readItems 23 = .ok (.invokevirtual 53, 3) := by decide +kernel
theorem dX3_readItems_26 : decode cX3_readItems 26 = .ok (.ifCond .eq 40, 3) := by decide +kernel
theorem dX3_readItems_29 : decode cX3_readItems 29 = .ok (.aload_n 0, 1) := by decide +kernel
theorem dX3_readItems_30 : decode cX3_readItems 30 = .ok (.invokevirtual 124, 3) := by decide +kernel
theorem dX3_readItems_33 : decode cX3_readItems 33 = .ok (.ifCond .eq 28, 3) := by decide +kernel
theorem dX3_readItems_36 : decode cX3_readItems 36 = .ok (.aload_n 0, 1) := by decide +kernel
theorem dX3_readItems_37 : decode cX3_readItems 37 = .ok (.invokevirtual 127, 3) := by decide +kernel
theorem dX3_readItems_40 : decode cX3_readItems 40 = .ok (.ifCond .eq 21, 3) := by decide +kernel
theorem dX3_readItems_43 : decode cX3_readItems 43 = .ok (.aload_n 0, 1) := by decide +kernel
theorem dX3_readItems_44 : decode cX3_readItems 44 = .ok (.invokevirtual 75, 3) := by decide +kernel
theorem dX3_readItems_47 : decode cX3_readItems 47 = .ok (.ifCond .eq 14, 3) := by decide +kernel
theorem dX3_readItems_50 : decode cX3_readItems 50 = .ok (.aload_n 0, 1) := by decide +kernel
theorem dX3_readItems_51 : decode cX3_readItems 51 = .ok (.invokevirtual 130, 3) := by decide +kernel
theorem dX3_readItems_54 : decode cX3_readItems 54 = .ok (.ifCond .eq 7, 3) := by decide +kernel
theorem dX3_readItems_57 : decode cX3_readItems 57 = .ok (.iconst 1, 1) := by decide +kernel
theorem dX3_readItems_58 : decode cX3_readItems 58 = .ok (.goto 4, 3) := by decide +kernel
theorem dX3_readItems_61 : decode cX3_readItems 61 = .ok (.iconst 0, 1) := by decide +kernel
theorem dX3_readItems_62 : decode cX3_readItems 62 = .ok (.istore_n 3, 1) := by decide +kernel
theorem dX3_readItems_63 : decode cX3_readItems 63 = .ok (.goto 71, 3) := by decide +kernel
theorem dX3_readItems_66 : decode cX3_readItems 66 = .ok (.aload_n 0, 1) := by decide +kernel
theorem dX3_readItems_67 : decode cX3_readItems 67 = .ok (.getfield 24, 3) := by decide +kernel
theorem dX3_readItems_70 : decode cX3_readItems 70 = .ok (.ldc 133, 2) := by decide +kernel
theorem dX3_readItems_72 : decode cX3_readItems 72 = .ok (.invokevirtual 53, 3) := by decide +kernel
theorem dX3_readItems_75 : decode cX3_readItems 75 = .ok (.ifCond .eq 26, 3) := by decide +kernel
theorem dX3_readItems_78 : decode cX3_readItems 78 = .ok (.aload_n 0, 1) := by decide +kernel
theorem dX3_readItems_79 : decode cX3_readItems 79 = .ok (.invokevirtual 124, 3) := by decide +kernel
theorem dX3_readItems_82 : decode cX3_readItems 82 = .ok (.ifCond .eq 14, 3) := by decide +kernel
theorem dX3_readItems_85 : decode cX3_readItems 85 = .ok (.aload_n 0, 1) := by decide +kernel
theorem dX3_readItems_86 : decode cX3_readItems 86 = .ok (.invokevirtual 75, 3) := by decide +kernel
theorem dX3_readItems_89 : decode cX3_readItems 89 = .ok (.ifCond .eq 7, 3) := by decide +kernel
theorem dX3_readItems_92 : decode cX3_readItems 92 = .ok (.iconst 1, 1) := by decide +kernel
theorem dX3_readItems_93 : decode cX3_readItems 93 = .ok (.goto 4, 3) := by decide +kernel
theorem dX3_readItems_96 : decode cX3_readItems 96 = .ok (.iconst 0, 1) := by decide +kernel
theorem dX3_readItems_97 : decode cX3_readItems 97 = .ok (.istore_n 3, 1) := by decide +kernel
theorem dX3_readItems_98 : decode cX3_readItems 98 = .ok (.goto 36, 3) := by decide +kernel
theorem dX3_readItems_101 : decode cX3_readItems 101 = .ok (.aload_n 0, 1) := by decide +kernel
theorem dX3_readItems_102 : decode cX3_readItems 102 = .ok (.getfield 24, 3) := by decide +kernel
theorem dX3_readItems_105 : decode cX3_readItems 105 = .ok (.ldc 135, 2) := by decide +kernel
theorem dX3_readItems_107 : decode cX3_readItems 107 = .ok (.invokevirtual 53, 3) := by decide +kernel
theorem dX3_readItems_110 : decode cX3_readItems 110 = .ok (.ifCond .eq 11, 3) := by decide +kernel
theorem dX3_readItems_113 : decode cX3_readItems 113 = .ok (.aload_n 0, 1) := by decide +kernel
theorem dX3_readItems_114 : decode cX3_readItems 114 = .ok (.invokevirtual 137, 3) := by decide +kernel
theorem dX3_readItems_117 : decode cX3_readItems 117 = .ok (.istore_n 3, 1) := by decide +kernel
theorem dX3_readItems_118 : decode cX3_readItems 118 = .ok (.goto 16, 3) := by decide +kernel
theorem dX3_readItems_121 : decode cX3_readItems 121 = .ok (.aload_n 0, 1) := by decide +kernel
theorem dX3_readItems_122 : decode cX3_readItems 122 = .ok (.iconst 1, 1) := by decide +kernel
theorem dX3_readItems_123 : decode cX3_readItems 123 = .ok (.aload_n 0, 1) := by decide +kernel
theorem dX3_readItems_124 : decode cX3_readItems 124 = .ok (.getfield 24, 3) := by decide +kernel
theorem dX3_readItems_127 : decode cX3_readItems 127 = .ok (.getfield 57, 3) := by decide +kernel
theorem dX3_readItems_130 : decode cX3_readItems 130 = .ok (.invokevirtual 60, 3) := by decide +kernel
theorem dX3_readItems_133 : decode cX3_readItems 133 = .ok (.istore_n 3, 1) := by decide +kernel
theorem dX3_readItems_134 : decode cX3_readItems 134 = .ok (.iload_n 3, 1) := by decide +kernel
theorem dX3_readItems_135 : decode cX3_readItems 135 = .ok (.ifCond .ne 5, 3) := by decide +kernel
theorem dX3_readItems_138 : decode cX3_readItems 138 = .ok (.iconst 0, 1) := by decide +kernel
theorem dX3_readItems_139 : decode cX3_readItems 139 = .ok (.ireturn, 1) := by decide +kernel
theorem dX3_readItems_140 : decode cX3_readItems 140 = .ok (.iinc 2 1, 3) := by decide +kernel
theorem dX3_readItems_143 : decode cX3_readItems 143 = .ok (.goto (-141), 3) := by decide +kernel
theorem dX3_readItems_146 : decode cX3_readItems 146 = .ok (.iconst 1, 1) := by decide +kernel
theorem dX3_readItems_147 : decode cX3_readItems 147 = .ok (.ireturn, 1) := by decide +kernel
theorem dX3_readMark_0 : decode cX3_readMark 0 = .ok (.aload_n 0, 1) := by decide +kernel
theorem dX3_readMark_1 : decode cX3_readMark 1 = .ok (.getfield 15, 3) := by decide +kernel
theorem dX3_readMark_4 : decode cX3_readMark 4 = .ok (.invokevirtual 140, 3) := by decide +kernel
theorem dX3_readMark_7 : decode cX3_readMark 7 = .ok (.ifCond .eq 16, 3) := by decide +kernel
theorem dX3_readMark_10 : decode cX3_readMark 10 = .ok (.aload_n 0, 1) := by decide +kernel
theorem dX3_readMark_11 : decode cX3_readMark 11 = .ok (.iconst 2, 1) := by decide +kernel
theorem dX3_readMark_12 : decode cX3_readMark 12 = .ok (.aload_n 0, 1) := by decide +kernel
theorem dX3_readMark_13 : decode cX3_readMark 13 = .ok (.getfield 24, 3) := by decide +kernel
theorem dX3_readMark_16 : decode cX3_readMark 16 = .ok (.getfield 57, 3) := by decide +kernel
theorem dX3_readMark_19 : decode cX3_readMark 19 = .ok (.invokevirtual 60, 3) := by decide +kernel
theorem dX3_readMark_22 : decode cX3_readMark 22 = .ok (.ireturn, 1) := by decide +kernel
theorem dX3_readMark_23 : decode cX3_readMark 23 = .ok (.aload_n 0, 1) := by decide +kernel
theorem dX3_readMark_24 : decode cX3_readMark 24 = .ok (.getfield 24, 3) := by decide +kernel
theorem dX3_readMark_27 : decode cX3_readMark 27 = .ok (.invokevirtual 64, 3) := by decide +kernel
theorem dX3_readMark_30 : decode cX3_readMark 30 = .ok (.aload_n 0, 1) := by decide +kernel
theorem dX3_readMark_31 : decode cX3_readMark 31 = .ok (.iconst 1, 1) := by decide +kernel
theorem dX3_readMark_32 : decode cX3_readMark 32 = .ok (.sipush 999, 3) := by decide +kernel
theorem dX3_readMark_35 : decode cX3_readMark 35 = .ok (.invokevirtual 67, 3) := by decide +kernel
theorem dX3_readMark_38 : decode cX3_readMark 38 = .ok (.ifCond .ne 5, 3) := by decide +kernel
theorem dX3_readMark_41 : decode cX3_readMark 41 = .ok (.iconst 0, 1) := by decide +kernel
theorem dX3_readMark_42 : decode cX3_readMark 42 = .ok (.ireturn, 1) := by decide +kernel
theorem dX3_readMark_43 : decode cX3_readMark 43 = .ok (.aload_n 0, 1) := by decide +kernel
theorem dX3_readMark_44 : decode cX3_readMark 44 = .ok (.getfield 70, 3) := by decide +kernel
theorem dX3_readMark_47 : decode cX3_readMark 47 = .ok (.aload_n 0, 1) := by decide +kernel
theorem dX3_readMark_48 : decode cX3_readMark 48 = .ok (.getfield 15, 3) := by decide +kernel
theorem dX3_readMark_51 : decode cX3_readMark 51 = .ok (.invokevirtual 143, 3) := by decide +kernel
theorem dX3_readMark_54 : decode cX3_readMark 54 = .ok (.if_icmp .gt 13, 3) := by decide +kernel
theorem dX3_readMark_57 : decode cX3_readMark 57 = .ok (.aload_n 0, 1) := by decide +kernel
theorem dX3_readMark_58 : decode cX3_readMark 58 = .ok (.iconst 3, 1) := by decide +kernel
theorem dX3_readMark_59 : decode cX3_readMark 59 = .ok (.aload_n 0, 1) := by decide +kernel
theorem dX3_readMark_60 : decode cX3_readMark 60 = .ok (.getfield 84, 3) := by decide +kernel
theorem dX3_readMark_63 : decode cX3_readMark 63 = .ok (.invokevirtual 60, 3) := by decide +kernel
theorem dX3_readMark_66 : decode cX3_readMark 66 = .ok (.ireturn, 1) := by decide +kernel
theorem dX3_readMark_67 : decode cX3_readMark 67 = .ok (.aload_n 0, 1) := by decide +kernel
theorem dX3_readMark_68 : decode cX3_readMark 68 = .ok (.getfield 15, 3) := by decide +kernel
theorem dX3_readMark_71 : decode cX3_readMark 71 = .ok (.aload_n 0, 1) := by decide +kernel
theorem dX3_readMark_72 : decode cX3_readMark 72 = .ok (.getfield 70, 3) := by decide +kernel
theorem dX3_readMark_75 : decode cX3_readMark 75 = .ok (.invokevirtual 147, 3) := by decide +kernel
theorem dX3_readMark_78 : decode cX3_readMark 78 = .ok (.iconst 1, 1) := by decide +kernel
theorem dX3_readMark_79 : decode cX3_readMark 79 = .ok (.ireturn, 1) := by decide +kernel
theorem dX3_readStrings_0 : decode cX3_readStrings 0 = .ok (.aload_n 0, 1) := by decide +kernel
theorem dX3_readStrings_1 : decode cX3_readStrings 1 = .ok (.getfield 24, 3) := by decide +kernel
theorem dX3_readStrings_4 : decode cX3_readStrings 4 = .ok (.invokevirtual 150, 3) := by decide +kernel
theorem dX3_readStrings_7 : decode cX3_readStrings 7 = .ok (.istore_n 1, 1) := by decide +kernel
theorem dX3_readStrings_8 : decode cX3_readStrings 8 = .ok (.aload_n 0, 1) := by decide +kernel
theorem dX3_readStrings_9 : decode cX3_readStrings 9 = .ok (.getfield 24, 3) := by decide +kernel
theorem dX3_readStrings_12 : decode cX3_readStrings 12 = .ok (.invokevirtual 153, 3) := by decide +kernel
theorem dX3_readStrings_15 : decode cX3_readStrings 15 = .ok (.istore_n 2, 1) := by decide +kernel
theorem dX3_readStrings_16 : decode cX3_readStrings 16 = .ok (.aload_n 0, 1) := by decide +kernel
theorem dX3_readStrings_17 : decode cX3_readStrings 17 = .ok (.getfield 24, 3) := by decide +kernel
theorem dX3_readStrings_20 : decode cX3_readStrings 20 = .ok (.getfield 78, 3) := by decide +kernel
theorem dX3_readStrings_23 : decode cX3_readStrings 23 = .ok (.iconst 4, 1) := by decide +kernel
theorem dX3_readStrings_24 : decode cX3_readStrings 24 = .ok (.if_icmp .ne 18, 3) := by decide +kernel
theorem dX3_readStrings_27 : decode cX3_readStrings 27 = .ok (.aload_n 0, 1) := by decide +kernel
theorem dX3_readStrings_28 : decode cX3_readStrings 28 = .ok (.getfield 24, 3) := by decide +kernel
theorem dX3_readStrings_31 : decode cX3_readStrings 31 = .ok (.getfield 156, 3) := by decide +kernel
theorem dX3_readStrings_34 : decode cX3_readStrings 34 = .ok (.iload_n 1, 1) := by decide +kernel
theorem dX3_readStrings_35 : decode cX3_readStrings 35 = .ok (.iload_n 2, 1) := by decide +kernel
theorem dX3_readStrings_36 : decode cX3_readStrings 36 = .ok (.invokestatic 160, 3) := by decide +kernel
theorem dX3_readStrings_39 : decode cX3_readStrings 39 = .ok (.ifCond .ne 16, 3) := by decide +kernel
theorem dX3_readStrings_42 : decode cX3_readStrings 42 = .ok (.aload_n 0, 1) := by decide +kernel
theorem dX3_readStrings_43 : decode cX3_readStrings 43 = .ok (.iconst 1, 1) := by decide +kernel
theorem dX3_readStrings_44 : decode cX3_readStrings 44 = .ok (.aload_n 0, 1) := by decide +kernel
theorem dX3_readStrings_45 : decode cX3_readStrings 45 = .ok (.getfield 24, 3) := by decide +kernel
theorem dX3_readStrings_48 : decode cX3_readStrings 48 = .ok (.getfield 57, 3) := by decide +kernel
theorem dX3_readStrings_51 : decode cX3_readStrings 51 = .ok (.invokevirtual 60, 3) := by decide +kernel
theorem dX3_readStrings_54 : decode cX3_readStrings 54 = .ok (.ireturn, 1) := by decide +kernel
theorem dX3_readStrings_55 : decode cX3_readStrings 55 = .ok (.aload_n 0, 1) := by decide +kernel
theorem dX3_readStrings_56 : decode cX3_readStrings 56 = .ok (.getfield 15, 3) := by decide +kernel
theorem dX3_readStrings_59 : decode cX3_readStrings 59 = .ok (.iload_n 1, 1) := by decide +kernel
theorem dX3_readStrings_60 : decode cX3_readStrings 60 = .ok (.iload_n 2, 1) := by decide +kernel
theorem dX3_readStrings_61 : decode cX3_readStrings 61 = .ok (.invokevirtual 166, 3) := by decide +kernel
theorem dX3_readStrings_64 : decode cX3_readStrings 64 = .ok (.aload_n 0, 1) := by decide +kernel
theorem dX3_readStrings_65 : decode cX3_readStrings 65 = .ok (.getfield 24, 3) := by decide +kernel
theorem dX3_readStrings_68 : decode cX3_readStrings 68 = .ok (.invokevirtual 64, 3) := by decide +kernel
theorem dX3_readStrings_71 : decode cX3_readStrings 71 = .ok (.iconst 1, 1) := by decide +kernel
theorem dX3_readStrings_72 : decode cX3_readStrings 72 = .ok (.istore_n 3, 1) := by decide +kernel
theorem dX3_readStrings_73 : decode cX3_readStrings 73 = .ok (.iload_n 3, 1) := by decide +kernel
theorem dX3_readStrings_74 : decode cX3_readStrings 74 = .ok (.iconst 4, 1) := by decide +kernel
theorem dX3_readStrings_75 : decode cX3_readStrings 75 = .ok (.if_icmp .gt 30, 3) := by decide +kernel
theorem dX3_readStrings_78 : decode cX3_readStrings 78 = .ok (.aload_n 0, 1) := by decide +kernel
theorem dX3_readStrings_79 : decode cX3_readStrings 79 = .ok (.getfield 24, 3) := by decide +kernel
theorem dX3_readStrings_82 : decode cX3_readStrings 82 = .ok (.getfield 78, 3) := by decide +kernel
theorem dX3_readStrings_85 : decode cX3_readStrings 85 = .ok (.iconst 4, 1) := by decide +kernel
theorem dX3_readStrings_86 : decode cX3_readStrings 86 = .ok (.if_icmp .ne 19, 3) := by decide +kernel
theorem dX3_readStrings_89 : decode cX3_readStrings 89 = .ok (.aload_n 0, 1) := by decide +kernel
theorem dX3_readStrings_90 : decode cX3_readStrings 90 = .ok (.iload_n 3, 1) := by decide +kernel
theorem dX3_readStrings_91 : decode cX3_readStrings 91 = .ok (.invokevirtual 170, 3) := by decide +kernel
theorem dX3_readStrings_94 : decode cX3_readStrings 94 = .ok (.ifCond .ne 5, 3) := by decide +kernel
theorem dX3_readStrings_97 : decode cX3_readStrings 97 = .ok (.iconst 0, 1) := by decide +kernel
theorem dX3_readStrings_98 : decode cX3_readStrings 98 = .ok (.ireturn, 1) := by decide +kernel
theorem dX3_readStrings_99 : decode cX3_readStrings 99 = .ok (.iinc 3 1, 3) := by decide +kernel
theorem dX3_readStrings_102 : decode cX3_readStrings 102 = .ok (.goto (-29), 3) := by decide +kernel
theorem dX3_readStrings_105 : decode cX3_readStrings 105 = .ok (.iconst 1, 1) := by decide +kernel
theorem dX3_readStrings_106 : decode cX3_readStrings 106 = .ok (.ireturn, 1) := by decide +kernel
theorem dX3_readFurtherString_0 : decode cX3_readFurtherString 0 = .ok (.aload_n 0, 1) := by decide +kernel
theorem dX3_readFurtherString_1 : decode cX3_readFurtherString 1 = .ok (.getfield 24, 3) := by decide +kernel
theorem dX3_readFurtherString_4 : decode cX3_readFurtherString 4 = .ok (.invokevirtual 150, 3) := by decide +kernel
theorem dX3_readFurtherString_7 : decode cX3_readFurtherString 7 = .ok (.istore_n 2, 1) := by decide +kernel
theorem dX3_readFurtherString_8 : decode cX3_readFurtherString 8 = .ok (.aload_n 0, 1) := by decide +kernel
theorem dX3_readFurtherString_9 : decode cX3_readFurtherString 9 = .ok (.getfield 24, 3) := by decide +kernel
theorem dX3_readFurtherString_12 : decode cX3_readFurtherString 12 = .ok (.invokevirtual 153, 3) := by decide +kernel
theorem dX3_readFurtherString_15 : decode cX3_readFurtherString 15 = .ok (.istore_n 3, 1) := by decide +kernel
theorem dX3_readFurtherString_16 : decode cX3_readFurtherString 16 = .ok (.iload_n 3, 1) := by decide +kernel
theorem dX3_readFurtherString_17 : decode cX3_readFurtherString 17 = .ok (.ifCond .le 31, 3) := by decide +kernel
theorem dX3_readFurtherString_20 : decode cX3_readFurtherString 20 = .ok (.aload_n 0, 1) := by decide +kernel
theorem dX3_readFurtherString_21 : decode cX3_readFurtherString 21 = .ok (.getfield 24, 3) := by decide +kernel
theorem dX3_readFurtherString_24 : decode cX3_readFurtherString 24 = .ok (.getfield 156, 3) := by decide +kernel
theorem dX3_readFurtherString_27 : decode cX3_readFurtherString 27 = .ok (.iload_n 2, 1) := by decide +kernel
theorem dX3_readFurtherString_28 : decode cX3_readFurtherString 28 = .ok (.iload_n 3, 1) := by decide +kernel
theorem dX3_readFurtherString_29 : decode cX3_readFurtherString 29 = .ok (.invokestatic 160, 3) := by decide +kernel
theorem dX3_readFurtherString_32 : decode cX3_readFurtherString 32 = .ok (.ifCond .ne 16, 3) := by decide +kernel
theorem dX3_readFurtherString_35 : decode cX3_readFurtherString 35 = .ok (.aload_n 0, 1) := by decide +kernel
theorem dX3_readFurtherString_36 : decode cX3_readFurtherString 36 = .ok (.iconst 1, 1) := by decide +kernel
theorem dX3_readFurtherString_37 : decode cX3_readFurtherString 37 = .ok (.aload_n 0, 1) := by decide +kernel
theorem dX3_readFurtherString_38 : decode cX3_readFurtherString 38 = .ok (.getfield 24, 3) := by decide +kernel
theorem dX3_readFurtherString_41 : decode cX3_readFurtherString 41 = .ok (.getfield 57, 3) := by decide +kernel
theorem dX3_readFurtherString_44 : decode cX3_readFurtherString 44 = .ok (.invokevirtual 60, 3) := by decide +kernel
theorem dX3_readFurtherString_47 : decode cX3_readFurtherString 47 = .ok (.ireturn, 1) := by decide +kernel
theorem dX3_readFurtherString_48 : decode cX3_readFurtherString 48 = .ok (.aload_n 0, 1) := by decide +kernel
theorem dX3_readFurtherString_49 : decode cX3_readFurtherString 49 = .ok (.getfield 15, 3) := by decide +kernel
theorem dX3_readFurtherString_52 : decode cX3_readFurtherString 52 = .ok (.iload_n 1, 1) := by decide +kernel
theorem dX3_readFurtherString_53 : decode cX3_readFurtherString 53 = .ok (.invokevirtual 173, 3) := by decide +kernel
theorem dX3_readFurtherString_56 : decode cX3_readFurtherString 56 = .ok (.ifCond .ne 16, 3) := by decide +kernel
theorem dX3_readFurtherString_59 : decode cX3_readFurtherString 59 = .ok (.aload_n 0, 1) := by decide +kernel
theorem dX3_readFurtherString_60 : decode cX3_readFurtherString 60 = .ok (.iconst 2, 1) := by decide +kernel
theorem dX3_readFurtherString_61 : decode cX3_readFurtherString 61 = .ok (.aload_n 0, 1) := by decide +kernel
theorem dX3_readFurtherString_62 : decode cX3_readFurtherString 62 = .ok (.getfield 24, 3) := by decide +kernel
theorem dX3_readFurtherString_65 : decode cX3_readFurtherString 65 = .ok (.getfield 57, 3) := by decide +kernel
theorem dX3_readFurtherString_68 : decode cX3_readFurtherString 68 = .ok (.invokevirtual 60, 3) := by decide +kernel
theorem dX3_readFurtherString_71 : decode cX3_readFurtherString 71 = .ok (.ireturn, 1) := by decide +kernel
theorem dX3_readFurtherString_72 : decode cX3_readFurtherString 72 = .ok (.iload_n 3, 1) := by decide +kernel
theorem dX3_readFurtherString_73 : decode cX3_readFurtherString 73 = .ok (.ifCond .le 13, 3) := by decide +kernel
theorem dX3_readFurtherString_76 : decode cX3_readFurtherString 76 = .ok (.aload_n 0, 1) := by decide +kernel
theorem dX3_readFurtherString_77 : decode cX3_readFurtherString 77 = .ok (.getfield 15, 3) := by decide +kernel
theorem dX3_readFurtherString_80 : decode cX3_readFurtherString 80 = .ok (.iload_n 1, 1) := by decide +kernel
theorem dX3_readFurtherString_81 : decode cX3_readFurtherString 81 = .ok (.iload_n 2, 1) := by decide +kernel
theorem dX3_readFurtherString_82 : decode cX3_readFurtherString 82 = .ok (.iload_n 3, 1) := by decide +kernel
theorem dX3_readFurtherString_83 : decode cX3_readFurtherString 83 = .ok (.invokevirtual 176, 3) := by decide +kernel
theorem dX3_readFurtherString_86 : decode cX3_readFurtherString 86 = .ok (.aload_n 0, 1) := by decide +kernel
theorem dX3_readFurtherString_87 : decode cX3_readFurtherString 87 = .ok (.getfield 24, 3) := by decide +kernel
theorem dX3_readFurtherString_90 : decode cX3_readFurtherString 90 = .ok (.invokevirtual 64, 3) := by decide +kernel
theorem dX3_readFurtherString_93 : decode cX3_readFurtherString 93 = .ok (.iconst 1, 1) := by decide +kernel
theorem dX3_readFurtherString_94 : decode cX3_readFurtherString 94 = .ok (.ireturn, 1) := by decide +kernel
theorem dX3_stringsFit_0 : decode cX3_stringsFit 0 = .ok (.aload_n 0, 1) := by decide +kernel
theorem dX3_stringsFit_1 : decode cX3_stringsFit 1 = .ok (.getfield 15, 3) := by decide +kernel
theorem dX3_stringsFit_4 : decode cX3_stringsFit 4 = .ok (.getfield 180, 3) := by decide +kernel
theorem dX3_stringsFit_7 : decode cX3_stringsFit 7 = .ok (.iconst 1, 1) := by decide +kernel
theorem dX3_stringsFit_8 : decode cX3_stringsFit 8 = .ok (.isub, 1) := by decide +kernel
theorem dX3_stringsFit_9 : decode cX3_stringsFit 9 = .ok (.istore_n 1, 1) := by decide +kernel
theorem dX3_stringsFit_10 : decode cX3_stringsFit 10 = .ok (.iconst (-1), 1) := by decide +kernel
theorem dX3_stringsFit_11 : decode cX3_stringsFit 11 = .ok (.istore_n 2, 1) := by decide +kernel
theorem dX3_stringsFit_12 : decode cX3_stringsFit 12 = .ok (.iconst 0, 1) := by decide +kernel
theorem dX3_stringsFit_13 : decode cX3_stringsFit 13 = .ok (.istore_n 3, 1) := by decide +kernel
theorem dX3_stringsFit_14 : decode cX3_stringsFit 14 = .ok (.iload_n 3, 1) := by decide +kernel
theorem dX3_stringsFit_15 : decode cX3_stringsFit 15 = .ok (.aload_n 0, 1) := by decide +kernel
theorem dX3_stringsFit_16 : decode cX3_stringsFit 16 = .ok (.getfield 15, 3) := by decide +kernel
theorem dX3_stringsFit_19 : decode cX3_stringsFit 19 = .ok (.getfield 73, 3) := by decide +kernel
theorem dX3_stringsFit_22 : decode cX3_stringsFit 22 = .ok (.if_icmp .ge 76, 3) := by decide +kernel
theorem dX3_stringsFit_25 : decode cX3_stringsFit 25 = .ok (.aload_n 0, 1) := by decide +kernel
theorem dX3_stringsFit_26 : decode cX3_stringsFit 26 = .ok (.getfield 15, 3) := by decide +kernel
theorem dX3_stringsFit_29 : decode cX3_stringsFit 29 = .ok (.iload_n 1, 1) := by decide +kernel
theorem dX3_stringsFit_30 : decode cX3_stringsFit 30 = .ok (.iload_n 3, 1) := by decide +kernel
theorem dX3_stringsFit_31 : decode cX3_stringsFit 31 = .ok (.invokevirtual 183, 3) := by decide +kernel
theorem dX3_stringsFit_34 : decode cX3_stringsFit 34 = .ok (.istore 4, 2) := by decide +kernel
theorem dX3_stringsFit_36 : decode cX3_stringsFit 36 = .ok (.aload_n 0, 1) := by decide +kernel
theorem dX3_stringsFit_37 : decode cX3_stringsFit 37 = .ok (.getfield 15, 3) := by decide +kernel
theorem dX3_stringsFit_40 : decode cX3_stringsFit 40 = .ok (.iload_n 1, 1) := by decide +kernel
theorem dX3_stringsFit_41 : decode cX3_stringsFit 41 = .ok (.iload_n 3, 1) := by decide +kernel
theorem dX3_stringsFit_42 : decode cX3_stringsFit 42 = .ok (.invokevirtual 186, 3) := by decide +kernel
theorem dX3_stringsFit_45 : decode cX3_stringsFit 45 = .ok (.istore 5, 2) := by decide +kernel
theorem dX3_stringsFit_47 : decode cX3_stringsFit 47 = .ok (.iload 4, 2) := by decide +kernel
theorem dX3_stringsFit_49 : decode cX3_stringsFit 49 = .ok (.iconst 1, 1) := by decide +kernel
theorem dX3_stringsFit_50 : decode cX3_stringsFit 50 = .ok (.isub, 1) := by decide +kernel
theorem dX3_stringsFit_51 : decode cX3_stringsFit 51 = .ok (.istore 6, 2) := by decide +kernel
theorem dX3_stringsFit_53 : decode cX3_stringsFit 53 = .ok (.aload_n 0, 1) := by decide +kernel
theorem dX3_stringsFit_54 : decode cX3_stringsFit 54 = .ok (.getfield 24, 3) := by decide +kernel
theorem dX3_stringsFit_57 : decode cX3_stringsFit 57 = .ok (.getfield 156, 3) := by decide +kernel
theorem dX3_stringsFit_60 : decode cX3_stringsFit 60 = .ok (.iload 4, 2) := by decide +kernel
theorem dX3_stringsFit_62 : decode cX3_stringsFit 62 = .ok (.iload 5, 2) := by decide +kernel
theorem dX3_stringsFit_64 : decode cX3_stringsFit 64 = .ok (.aload_n 0, 1) := by decide +kernel
theorem dX3_stringsFit_65 : decode cX3_stringsFit 65 = .ok (.getfield 15, 3) := by decide +kernel
theorem dX3_stringsFit_68 : decode cX3_stringsFit 68 = .ok (.iload_n 3, 1) := by decide +kernel
theorem dX3_stringsFit_69 : decode cX3_stringsFit 69 = .ok (.invokevirtual 188, 3) := by decide +kernel
theorem dX3_stringsFit_72 : decode cX3_stringsFit 72 = .ok (.invokestatic 192, 3) := by decide +kernel
theorem dX3_stringsFit_75 : decode cX3_stringsFit 75 = .ok (.ifCond .ne 17, 3) := by decide +kernel
theorem dX3_stringsFit_78 : decode cX3_stringsFit 78 = .ok (.iload_n 2, 1) := by decide +kernel
theorem dX3_stringsFit_79 : decode cX3_stringsFit 79 = .ok (.iconst (-1), 1) := by decide +kernel
theorem dX3_stringsFit_80 : decode cX3_stringsFit 80 = .ok (.if_icmp .eq 9, 3) := by decide +kernel
theorem dX3_stringsFit_83 : decode cX3_stringsFit 83 = .ok (.iload 6, 2) := by decide +kernel
theorem dX3_stringsFit_85 : decode cX3_stringsFit 85 = .ok (.iload_n 2, 1) := by decide +kernel
theorem dX3_stringsFit_86 : decode cX3_stringsFit 86 = .ok (.if_icmp .ge 6, 3) := by decide +kernel
theorem dX3_stringsFit_89 : decode cX3_stringsFit 89 = .ok (.iload 6, 2) := by decide +kernel
theorem dX3_stringsFit_91 : decode cX3_stringsFit 91 = .ok (.istore_n 2, 1) := by decide +kernel
theorem dX3_stringsFit_92 : decode cX3_stringsFit 92 = .ok (.iinc 3 1, 3) := by decide +kernel
theorem dX3_stringsFit_95 : decode cX3_stringsFit 95 = .ok (.goto (-81), 3) := by decide +kernel
theorem dX3_stringsFit_98 : decode cX3_stringsFit 98 = .ok (.iload_n 2, 1) := by decide +kernel
theorem dX3_stringsFit_99 : decode cX3_stringsFit 99 = .ok (.iconst (-1), 1) := by decide +kernel
theorem dX3_stringsFit_100 : decode cX3_stringsFit 100 = .ok (.if_icmp .eq 12, 3) := by decide +kernel
theorem dX3_stringsFit_103 : decode cX3_stringsFit 103 = .ok (.aload_n 0, 1) := by decide +kernel
theorem dX3_stringsFit_104 : decode cX3_stringsFit 104 = .ok (.iconst 4, 1) := by decide +kernel
theorem dX3_stringsFit_105 : decode cX3_stringsFit 105 = .ok (.iload_n 2, 1) := by decide +kernel
theorem dX3_stringsFit_106 : decode cX3_stringsFit 106 = .ok (.invokevirtual 60, 3) := by decide +kernel
theorem dX3_stringsFit_109 : decode cX3_stringsFit 109 = .ok (.ifCond .eq 7, 3) := by decide +kernel
theorem dX3_stringsFit_112 : decode cX3_stringsFit 112 = .ok (.iconst 1, 1) := by decide +kernel
theorem dX3_stringsFit_113 : decode cX3_stringsFit 113 = .ok (.goto 4, 3) := by decide +kernel
theorem dX3_stringsFit_116 : decode cX3_stringsFit 116 = .ok (.iconst 0, 1) := by decide +kernel
theorem dX3_stringsFit_117 : decode cX3_stringsFit 117 = .ok (.ireturn, 1) := by decide +kernel
theorem dX3_readCut_0 : decode cX3_readCut 0 = .ok (.aload_n 0, 1) := by decide +kernel
theorem dX3_readCut_1 : decode cX3_readCut 1 = .ok (.getfield 15, 3) := by decide +kernel
theorem dX3_readCut_4 : decode cX3_readCut 4 = .ok (.invokevirtual 196, 3) := by decide +kernel
theorem dX3_readCut_7 : decode cX3_readCut 7 = .ok (.ifCond .eq 16, 3) := by decide +kernel
theorem dX3_readCut_10 : decode cX3_readCut 10 = .ok (.aload_n 0, 1) := by decide +kernel
theorem dX3_readCut_11 : decode cX3_readCut 11 = .ok (.iconst 2, 1) := by decide +kernel
theorem dX3_readCut_12 : decode cX3_readCut 12 = .ok (.aload_n 0, 1) := by decide +kernel
theorem dX3_readCut_13 : decode cX3_readCut 13 = .ok (.getfield 24, 3) := by decide +kernel
theorem dX3_readCut_16 : decode cX3_readCut 16 = .ok (.getfield 57, 3) := by decide +kernel
theorem dX3_readCut_19 : decode cX3_readCut 19 = .ok (.invokevirtual 60, 3) := by decide +kernel
theorem dX3_readCut_22 : decode cX3_readCut 22 = .ok (.ireturn, 1) := by decide +kernel
theorem dX3_readCut_23 : decode cX3_readCut 23 = .ok (.aload_n 0, 1) := by decide +kernel
theorem dX3_readCut_24 : decode cX3_readCut 24 = .ok (.getfield 24, 3) := by decide +kernel
theorem dX3_readCut_27 : decode cX3_readCut 27 = .ok (.invokevirtual 64, 3) := by decide +kernel
theorem dX3_readCut_30 : decode cX3_readCut 30 = .ok (.aload_n 0, 1) := by decide +kernel
theorem dX3_readCut_31 : decode cX3_readCut 31 = .ok (.getfield 24, 3) := by decide +kernel
theorem dX3_readCut_34 : decode cX3_readCut 34 = .ok (.getfield 78, 3) := by decide +kernel
theorem dX3_readCut_37 : decode cX3_readCut 37 = .ok (.iconst 2, 1) := by decide +kernel
theorem dX3_readCut_38 : decode cX3_readCut 38 = .ok (.if_icmp .eq 16, 3) := by decide +kernel
theorem dX3_readCut_41 : decode cX3_readCut 41 = .ok (.aload_n 0, 1) := by decide +kernel
theorem dX3_readCut_42 : decode cX3_readCut 42 = .ok (.iconst 1, 1) := by decide +kernel
theorem dX3_readCut_43 : decode cX3_readCut 43 = .ok (.aload_n 0, 1) := by decide +kernel
theorem dX3_readCut_44 : decode cX3_readCut 44 = .ok (.getfield 24, 3) := by decide +kernel
theorem dX3_readCut_47 : decode cX3_readCut 47 = .ok (.getfield 57, 3) := by decide +kernel
theorem dX3_readCut_50 : decode cX3_readCut 50 = .ok (.invokevirtual 60, 3) := by decide +kernel
theorem dX3_readCut_53 : decode cX3_readCut 53 = .ok (.ireturn, 1) := by decide +kernel
theorem dX3_readCut_54 : decode cX3_readCut 54 = .ok (.aload_n 0, 1) := by decide +kernel
theorem dX3_readCut_55 : decode cX3_readCut 55 = .ok (.getfield 24, 3) := by decide +kernel
theorem dX3_readCut_58 : decode cX3_readCut 58 = .ok (.getfield 81, 3) := by decide +kernel
theorem dX3_readCut_61 : decode cX3_readCut 61 = .ok (.istore_n 1, 1) := by decide +kernel
theorem dX3_readCut_62 : decode cX3_readCut 62 = .ok (.aload_n 0, 1) := by decide +kernel
theorem dX3_readCut_63 : decode cX3_readCut 63 = .ok (.getfield 15, 3) := by decide +kernel
theorem dX3_readCut_66 : decode cX3_readCut 66 = .ok (.iload_n 1, 1) := by decide +kernel
theorem dX3_readCut_67 : decode cX3_readCut 67 = .ok (.invokevirtual 199, 3) := by decide +kernel
theorem dX3_readCut_70 : decode cX3_readCut 70 = .ok (.ifCond .eq 16, 3) := by decide +kernel
theorem dX3_readCut_73 : decode cX3_readCut 73 = .ok (.aload_n 0, 1) := by decide +kernel
theorem dX3_readCut_74 : decode cX3_readCut 74 = .ok (.iconst 3, 1) := by decide +kernel
theorem dX3_readCut_75 : decode cX3_readCut 75 = .ok (.aload_n 0, 1) := by decide +kernel
theorem dX3_readCut_76 : decode cX3_readCut 76 = .ok (.getfield 24, 3) := by decide +kernel
theorem dX3_readCut_79 : decode cX3_readCut 79 = .ok (.getfield 57, 3) := by decide +kernel
theorem dX3_readCut_82 : decode cX3_readCut 82 = .ok (.invokevirtual 60, 3) := by decide +kernel
theorem dX3_readCut_85 : decode cX3_readCut 85 = .ok (.ireturn, 1) := by decide +kernel
theorem dX3_readCut_86 : decode cX3_readCut 86 = .ok (.aload_n 0, 1) := by decide +kernel
theorem dX3_readCut_87 : decode cX3_readCut 87 = .ok (.getfield 24, 3) := by decide +kernel
theorem dX3_readCut_90 : decode cX3_readCut 90 = .ok (.invokevirtual 64, 3) := by decide +kernel
theorem dX3_readCut_93 : decode cX3_readCut 93 = .ok (.aload_n 0, 1) := by decide +kernel
theorem dX3_readCut_94 : decode cX3_readCut 94 = .ok (.iconst 1, 1) := by decide +kernel
theorem dX3_readCut_95 : decode cX3_readCut 95 = .ok (.sipush 999, 3) := by decide +kernel
theorem dX3_readCut_98 : decode cX3_readCut 98 = .ok (.invokevirtual 67, 3) := by decide +kernel
theorem dX3_readCut_101 : decode cX3_readCut 101 = .ok (.ifCond .ne 5, 3) := by decide +kernel
theorem dX3_readCut_104 : decode cX3_readCut 104 = .ok (.iconst 0, 1) := by decide +kernel
theorem dX3_readCut_105 : decode cX3_readCut 105 = .ok (.ireturn, 1) := by decide +kernel
theorem dX3_readCut_106 : decode cX3_readCut 106 = .ok (.aload_n 0, 1) := by decide +kernel
theorem dX3_readCut_107 : decode cX3_readCut 107 = .ok (.getfield 70, 3) := by decide +kernel
theorem dX3_readCut_110 : decode cX3_readCut 110 = .ok (.istore_n 2, 1) := by decide +kernel
theorem dX3_readCut_111 : decode cX3_readCut 111 = .ok (.aload_n 0, 1) := by decide +kernel
theorem dX3_readCut_112 : decode cX3_readCut 112 = .ok (.iconst 1, 1) := by decide +kernel
theorem dX3_readCut_113 : decode cX3_readCut 113 = .ok (.sipush 999, 3) := by decide +kernel
theorem dX3_readCut_116 : decode cX3_readCut 116 = .ok (.invokevirtual 67, 3) := by decide +kernel
theorem dX3_readCut_119 : decode cX3_readCut 119 = .ok (.ifCond .ne 5, 3) := by decide +kernel
theorem dX3_readCut_122 : decode cX3_readCut 122 = .ok (.iconst 0, 1) := by decide +kernel
theorem dX3_readCut_123 : decode cX3_readCut 123 = .ok (.ireturn, 1) := by decide +kernel
theorem dX3_readCut_124 : decode cX3_readCut 124 = .ok (.aload_n 0, 1) := by decide +kernel
theorem dX3_readCut_125 : decode cX3_readCut 125 = .ok (.getfield 70, 3) := by decide +kernel
theorem dX3_readCut_128 : decode cX3_readCut 128 = .ok (.iload_n 2, 1) := by decide +kernel
theorem dX3_readCut_129 : decode cX3_readCut 129 = .ok (.if_icmp .gt 13, 3) := by decide +kernel
theorem dX3_readCut_132 : decode cX3_readCut 132 = .ok (.aload_n 0, 1) := by decide +kernel
theorem dX3_readCut_133 : decode cX3_readCut 133 = .ok (.iconst 3, 1) := by decide +kernel
theorem dX3_readCut_134 : decode cX3_readCut 134 = .ok (.aload_n 0, 1) := by decide +kernel
theorem dX3_readCut_135 : decode cX3_readCut 135 = .ok (.getfield 84, 3) := by decide +kernel
theorem dX3_readCut_138 : decode cX3_readCut 138 = .ok (.invokevirtual 60, 3) := by decide +kernel
theorem dX3_readCut_141 : decode cX3_readCut 141 = .ok (.ireturn, 1) := by decide +kernel
theorem dX3_readCut_142 : decode cX3_readCut 142 = .ok (.aload_n 0, 1) := by decide +kernel
theorem dX3_readCut_143 : decode cX3_readCut 143 = .ok (.getfield 15, 3) := by decide +kernel
theorem dX3_readCut_146 : decode cX3_readCut 146 = .ok (.iload_n 1, 1) := by decide +kernel
theorem dX3_readCut_147 : decode cX3_readCut 147 = .ok (.iload_n 2, 1) := by decide +kernel
theorem dX3_readCut_148 : decode cX3_readCut 148 = .ok (.aload_n 0, 1) := by decide +kernel
theorem dX3_readCut_149 : decode cX3_readCut 149 = .ok (.getfield 70, 3) := by decide +kernel
theorem dX3_readCut_152 : decode cX3_readCut 152 = .ok (.invokevirtual 202, 3) := by decide +kernel
theorem dX3_readCut_155 : decode cX3_readCut 155 = .ok (.aload_n 0, 1) := by decide +kernel
theorem dX3_readCut_156 : decode cX3_readCut 156 = .ok (.invokevirtual 75, 3) := by decide +kernel
theorem dX3_readCut_159 : decode cX3_readCut 159 = .ok (.ireturn, 1) := by decide +kernel
theorem dX4_init_0 : decode cX4_init 0 = .ok (.aload_n 0, 1) := by decide +kernel
theorem dX4_init_1 : decode cX4_init 1 = .ok (.invokespecial 3, 3) := by decide +kernel
theorem dX4_init_4 : decode cX4_init 4 = .ok (.aload_n 0, 1) := by decide +kernel
theorem dX4_init_5 : decode cX4_init 5 = .ok (.aload_n 1, 1) := by decide +kernel
theorem dX4_init_6 : decode cX4_init 6 = .ok (.putfield 9, 3) := by decide +kernel
theorem dX4_init_9 : decode cX4_init 9 = .ok (.return_, 1) := by decide +kernel
theorem dX4_open_0 : decode cX4_open 0 = .ok (.aload_n 0, 1) := by decide +kernel
theorem dX4_open_1 : decode cX4_open 1 = .ok (.aload_n 1, 1) := by decide +kernel
theorem dX4_open_2 : decode cX4_open 2 = .ok (.putfield 9, 3) := by decide +kernel
theorem dX4_open_5 : decode cX4_open 5 = .ok (.aload_n 0, 1) := by decide +kernel
theorem dX4_open_6 : decode cX4_open 6 = .ok (.iconst 0, 1) := by decide +kernel
theorem dX4_open_7 : decode cX4_open 7 = .ok (.iload_n 2, 1) := by decide +kernel
theorem dX4_open_8 : decode cX4_open 8 = .ok (.aload_n 1, 1) := by decide +kernel
theorem dX4_open_9 : decode cX4_open 9 = .ok (.arraylength, 1) := by decide +kernel
theorem dX4_open_10 : decode cX4_open 10 = .ok (.invokestatic 15, 3) := by decide +kernel
theorem dX4_open_13 : decode cX4_open 13 = .ok (.invokestatic 21, 3) := by decide +kernel
theorem dX4_open_16 : decode cX4_open 16 = .ok (.putfield 24, 3) := by decide +kernel
theorem dX4_open_19 : decode cX4_open 19 = .ok (.aload_n 0, 1) := by decide +kernel
theorem dX4_open_20 : decode cX4_open 20 = .ok (.iconst 0, 1) := by decide +kernel
theorem dX4_open_21 : decode cX4_open 21 = .ok (.putfield 28, 3) := by decide +kernel
theorem dX4_open_24 : decode cX4_open 24 = .ok (.aload_n 0, 1) := by decide +kernel
theorem dX4_open_25 : decode cX4_open 25 = .ok (.invokevirtual 31, 3) := by decide +kernel
theorem dX4_open_28 : decode cX4_open 28 = .ok (.return_, 1) := by decide +kernel
theorem dX4_step_0 : decode cX4_step 0 = .ok (.aload_n 0, 1) := by decide +kernel
theorem dX4_step_1 : decode cX4_step 1 = .ok (.aload_n 0, 1) := by decide +kernel
theorem dX4_step_2 : decode cX4_step 2 = .ok (.getfield 28, 3) := by decide +kernel
theorem dX4_step_5 : decode cX4_step 5 = .ok (.putfield 34, 3) := by decide +kernel
theorem dX4_step_8 : decode cX4_step 8 = .ok (.aload_n 0, 1) := by decide +kernel
theorem dX4_step_9 : decode cX4_step 9 = .ok (.getfield 34, 3) := by decide +kernel
theorem dX4_step_12 : decode cX4_step 12 = .ok (.aload_n 0, 1) := by decide +kernel
theorem dX4_step_13 : decode cX4_step 13 = .ok (.getfield 24, 3) := by decide +kernel
theorem dX4_step_16 : decode cX4_step 16 = .ok (.if_icmp .ge 44, 3) := by decide +kernel
theorem dX4_step_19 : decode cX4_step 19 = .ok (.aload_n 0, 1) := by decide +kernel
theorem dX4_step_20 : decode cX4_step 20 = .ok (.getfield 9, 3) := by decide +kernel
theorem dX4_step_23 : decode cX4_step 23 = .ok (.aload_n 0, 1) := by decide +kernel
theorem dX4_step_24 : decode cX4_step 24 = .ok (.getfield 34, 3) := by decide +kernel
theorem dX4_step_27 : decode cX4_step 27 = .ok (.baload, 1) := by decide +kernel
theorem dX4_step_28 : decode cX4_step 28 = .ok (.bipush 32, 2) := by decide +kernel
theorem dX4_step_30 : decode cX4_step 30 = .ok (.if_icmp .eq 17, 3) := by decide +kernel
theorem dX4_step_33 : decode cX4_step 33 = .ok (.aload_n 0, 1) := by decide +kernel
theorem dX4_step_34 : decode cX4_step 34 = .ok (.getfield 9, 3) := by decide +kernel
theorem dX4_step_37 : decode cX4_step 37 = .ok (.aload_n 0, 1) := by decide +kernel
theorem dX4_step_38 : decode cX4_step 38 = .ok (.getfield 34, 3) := by decide +kernel
theorem dX4_step_41 : decode cX4_step 41 = .ok (.baload, 1) := by decide +kernel
theorem dX4_step_42 : decode cX4_step 42 = .ok (.bipush 10, 2) := by decide +kernel
theorem dX4_step_44 : decode cX4_step 44 = .ok (.if_icmp .ne 16, 3) := by decide +kernel
theorem dX4_step_47 : decode cX4_step 47 = .ok (.aload_n 0, 1) := by decide +kernel
theorem dX4_step_48 : decode cX4_step 48 = .ok (.dup, 1) := by decide +kernel
theorem dX4_step_49 : decode cX4_step 49 = .ok (.getfield 34, 3) := by decide +kernel
theorem dX4_step_52 : decode cX4_step 52 = .ok (.iconst 1, 1) := by decide +kernel
theorem dX4_step_53 : decode cX4_step 53 = .ok (.iadd, 1) := by decide +kernel
theorem dX4_step_54 : decode cX4_step 54 = .ok (.putfield 34, 3) := by decide +kernel
theorem dX4_step_57 : decode cX4_step 57 = .ok (.goto (-49), 3) := by decide +kernel
theorem dX4_step_60 : decode cX4_step 60 = .ok (.aload_n 0, 1) := by decide +kernel
theorem dX4_step_61 : decode cX4_step 61 = .ok (.aload_n 0, 1) := by decide +kernel
theorem dX4_step_62 : decode cX4_step 62 = .ok (.getfield 34, 3) := by decide +kernel
theorem dX4_step_65 : decode cX4_step 65 = .ok (.putfield 28, 3) := by decide +kernel
theorem dX4_step_68 : decode cX4_step 68 = .ok (.aload_n 0, 1) := by decide +kernel
theorem dX4_step_69 : decode cX4_step 69 = .ok (.getfield 34, 3) := by decide +kernel
theorem dX4_step_72 : decode cX4_step 72 = .ok (.aload_n 0, 1) := by decide +kernel
theorem dX4_step_73 : decode cX4_step 73 = .ok (.getfield 24, 3) := by decide +kernel
theorem dX4_step_76 : decode cX4_step 76 = .ok (.if_icmp .lt 9, 3) := by decide +kernel
theorem dX4_step_79 : decode cX4_step 79 = .ok (.aload_n 0, 1) := by decide +kernel
theorem dX4_step_80 : decode cX4_step 80 = .ok (.iconst 0, 1) := by decide +kernel
theorem dX4_step_81 : decode cX4_step 81 = .ok (.putfield 37, 3) := by decide +kernel
theorem dX4_step_84 : decode cX4_step 84 = .ok (.return_, 1) := by decide +kernel
theorem dX4_step_85 : decode cX4_step 85 = .ok (.aload_n 0, 1) := by decide +kernel
theorem dX4_step_86 : decode cX4_step 86 = .ok (.getfield 9, 3) := by decide +kernel
theorem dX4_step_89 : decode cX4_step 89 = .ok (.aload_n 0, 1) := by decide +kernel
theorem dX4_step_90 : decode cX4_step 90 = .ok (.getfield 34, 3) := by decide +kernel
theorem dX4_step_93 : decode cX4_step 93 = .ok (.baload, 1) := by decide +kernel
theorem dX4_step_94 : decode cX4_step 94 = .ok (.istore_n 1, 1) := by decide +kernel
theorem dX4_step_95 : decode cX4_step 95 = .ok (.iload_n 1, 1) := by decide +kernel
theorem dX4_step_96 : decode cX4_step 96 = .ok (.bipush 97, 2) := by decide +kernel
theorem dX4_step_98 : decode cX4_step 98 = .ok (.if_icmp .lt 16, 3) := by decide +kernel
theorem dX4_step_101 : decode cX4_step 101 = .ok (.iload_n 1, 1) := by decide +kernel
theorem dX4_step_102 : decode cX4_step 102 = .ok (.bipush 122, 2) := by decide +kernel
theorem dX4_step_104 : decode cX4_step 104 = .ok (.if_icmp .gt 10, 3) := by decide +kernel
theorem dX4_step_107 : decode cX4_step 107 = .ok (.aload_n 0, 1) := by decide +kernel
theorem dX4_step_108 : decode cX4_step 108 = .ok (.invokevirtual 40, 3) := by decide +kernel
theorem dX4_step_111 : decode cX4_step 111 = .ok (.goto 40, 3) := by decide +kernel
theorem dX4_step_114 : decode cX4_step 114 = .ok (.iload_n 1, 1) := by decide +kernel
theorem dX4_step_115 : decode cX4_step 115 = .ok (.bipush 48, 2) := by decide +kernel
theorem dX4_step_117 : decode cX4_step 117 = .ok (.if_icmp .lt 16, 3) := by decide +kernel
theorem dX4_step_120 : decode cX4_step 120 = .ok (.iload_n 1, 1) := by decide +kernel
theorem dX4_step_121 : decode cX4_step 121 = .ok (.bipush 57, 2) := by decide +kernel
theorem dX4_step_123 : decode cX4_step 123 = .ok (.if_icmp .gt 10, 3) := by decide +kernel
theorem dX4_step_126 : decode cX4_step 126 = .ok (.aload_n 0, 1) := by decide +kernel
theorem dX4_step_127 : decode cX4_step 127 = .ok (.invokevirtual 43, 3) := by decide +kernel
theorem dX4_step_130 : decode cX4_step 130 = .ok (.goto 21, 3) := by decide +kernel
theorem dX4_step_133 : decode cX4_step 133 = .ok (.iload_n 1, 1) := by decide +kernel
theorem dX4_step_134 : decode cX4_step 134 = .ok (.bipush 34, 2) := by decide +kernel
theorem dX4_step_136 : decode cX4_step 136 = .ok (.if_icmp .ne 10, 3) := by decide +kernel
theorem dX4_step_139 : decode cX4_step 139 = .ok (.aload_n 0, 1) := by decide +kernel
theorem dX4_step_140 : decode cX4_step 140 = .ok (.invokevirtual 46, 3) := by decide +kernel
theorem dX4_step_143 : decode cX4_step 143 = .ok (.goto 8, 3) := by decide +kernel
theorem dX4_step_146 : decode cX4_step 146 = .ok (.aload_n 0, 1) := by decide +kernel
theorem dX4_step_147 : decode cX4_step 147 = .ok (.iload_n 1, 1) := by decide +kernel
theorem dX4_step_148 : decode cX4_step 148 = .ok (.invokevirtual 49, 3) := by decide +kernel
theorem dX4_step_151 : decode cX4_step 151 = .ok (.return_, 1) := by decide +kernel
theorem dX4_takeWord_0 : decode cX4_takeWord 0 = .ok (.aload_n 0, 1) := by decide +kernel
theorem dX4_takeWord_1 : decode cX4_takeWord 1 = .ok (.iconst 1, 1) := by decide +kernel
theorem dX4_takeWord_2 : decode cX4_takeWord 2 = .ok (.putfield 37, 3) := by decide +kernel
theorem dX4_takeWord_5 : decode cX4_takeWord 5 = .ok (.aload_n 0, 1) := by decide +kernel
theorem dX4_takeWord_6 : decode cX4_takeWord 6 = .ok (.getfield 28, 3) := by decide +kernel
theorem dX4_takeWord_9 : decode cX4_takeWord 9 = .ok (.aload_n 0, 1) := by decide +kernel
theorem dX4_takeWord_10 : decode cX4_takeWord 10 = .ok (.getfield 24, 3) := by decide +kernel
theorem dX4_takeWord_13 : decode cX4_takeWord 13 = .ok (.if_icmp .ge 44, 3) := by decide +kernel
theorem dX4_takeWord_16 : decode cX4_takeWord 16 = .ok (.aload_n 0, 1) := by decide +kernel
theorem dX4_takeWord_17 : decode cX4_takeWord 17 = .ok (.getfield 9, 3) := by decide +kernel
theorem dX4_takeWord_20 : decode cX4_takeWord 20 = .ok (.aload_n 0, 1) := by decide +kernel
theorem dX4_takeWord_21 : decode cX4_takeWord 21 = .ok (.getfield 28, 3) := by decide +kernel
theorem dX4_takeWord_24 : decode cX4_takeWord 24 = .ok (.baload, 1) := by decide +kernel
theorem dX4_takeWord_25 : decode cX4_takeWord 25 = .ok (.bipush 97, 2) := by decide +kernel
theorem dX4_takeWord_27 : decode cX4_takeWord 27 = .ok (.if_icmp .lt 30, 3) := by decide +kernel
theorem dX4_takeWord_30 : decode cX4_takeWord 30 = .ok (.aload_n 0, 1) := by decide +kernel
theorem dX4_takeWord_31 : decode cX4_takeWord 31 = .ok (.getfield 9, 3) := by decide +kernel
theorem dX4_takeWord_34 : decode cX4_takeWord 34 = .ok (.aload_n 0, 1) := by decide +kernel
theorem dX4_takeWord_35 : decode cX4_takeWord 35 = .ok (.getfield 28, 3) := by decide +kernel
theorem dX4_takeWord_38 : decode cX4_takeWord 38 = .ok (.baload, 1) := by decide +kernel
theorem dX4_takeWord_39 : decode cX4_takeWord 39 = .ok (.bipush 122, 2) := by decide +kernel
theorem dX4_takeWord_41 : decode cX4_takeWord 41 = .ok (.if_icmp .gt 16, 3) := by decide +kernel
theorem dX4_takeWord_44 : decode cX4_takeWord 44 = .ok (.aload_n 0, 1) := by decide +kernel
theorem dX4_takeWord_45 : decode cX4_takeWord 45 = .ok (.dup, 1) := by decide +kernel
theorem dX4_takeWord_46 : decode cX4_takeWord 46 = .ok (.getfield 28, 3) := by decide +kernel
theorem dX4_takeWord_49 : decode cX4_takeWord 49 = .ok (.iconst 1, 1) := by decide +kernel
theorem dX4_takeWord_50 : decode cX4_takeWord 50 = .ok (.iadd, 1) := by decide +kernel
theorem dX4_takeWord_51 : decode cX4_takeWord 51 = .ok (.putfield 28, 3) := by decide +kernel
theorem dX4_takeWord_54 : decode cX4_takeWord 54 = .ok (.goto (-49), 3) := by decide +kernel
theorem dX4_takeWord_57 : decode cX4_takeWord 57 = .ok (.return_, 1) := by decide +kernel
theorem dX4_takeNumber_0 : decode cX4_takeNumber 0 = .ok (.aload_n 0, 1) := by decide +kernel
theorem dX4_takeNumber_1 : decode cX4_takeNumber 1 = .ok (.iconst 3, 1) := by decide +kernel
theorem dX4_takeNumber_2 : decode cX4_takeNumber 2 = .ok (.putfield 37, 3) := by decide +kernel
theorem dX4_takeNumber_5 : decode cX4_takeNumber 5 = .ok (.aload_n 0, 1) := by decide +kernel
theorem dX4_takeNumber_6 : decode cX4_takeNumber 6 = .ok (.iconst 0, 1) := by decide +kernel
theorem dX4_takeNumber_7 : decode cX4_takeNumber 7 = .ok (.putfield 53, 3) := by decide +kernel
theorem dX4_takeNumber_10 : decode cX4_takeNumber 10 = .ok (.aload_n 0, 1) := by decide +kernel
theorem dX4_takeNumber_11 : decode cX4_takeNumber 11 = .ok (.getfield 28, 3) := by decide +kernel
theorem dX4_takeNumber_14 : decode cX4_takeNumber 14 = .ok (.aload_n 0, 1) := by decide +kernel
theorem dX4_takeNumber_15 : decode cX4_takeNumber 15 = .ok (.getfield 24, 3) := by decide +kernel
theorem dX4_takeNumber_18 : decode cX4_takeNumber 18 = .ok (.if_icmp .ge 73, 3) := by decide +kernel
theorem dX4_takeNumber_21 : decode cX4_takeNumber 21 = .ok (.aload_n 0, 1) := by decide +kernel
theorem dX4_takeNumber_22 : decode cX4_takeNumber 22 = .ok (.getfield 9, 3) := by decide +kernel
theorem dX4_takeNumber_25 : decode cX4_takeNumber 25 = .ok (.aload_n 0, 1) := by decide +kernel
theorem dX4_takeNumber_26 : decode cX4_takeNumber 26 = .ok (.getfield 28, 3) := by decide +kernel
theorem dX4_takeNumber_29 : decode cX4_takeNumber 29 = .ok (.baload, 1) := by decide +kernel
theorem dX4_takeNumber_30 : decode cX4_takeNumber 30 = .ok (.bipush 48, 2) := by decide +kernel
theorem dX4_takeNumber_32 : decode cX4_takeNumber 32 = .ok (.if_icmp .lt 59, 3) := by decide +kernel
theorem dX4_takeNumber_35 : decode cX4_takeNumber 35 = .ok (.aload_n 0, 1) := by decide +kernel
theorem dX4_takeNumber_36 : decode cX4_takeNumber 36 = .ok (.getfield 9, 3) := by decide +kernel
theorem dX4_takeNumber_39 : decode cX4_takeNumber 39 = .ok (.aload_n 0, 1) := by decide +kernel
theorem dX4_takeNumber_40 : decode cX4_takeNumber 40 = .ok (.getfield 28, 3) := by decide +kernel
theorem dX4_takeNumber_43 : decode cX4_takeNumber 43 = .ok (.baload, 1) := by decide +kernel
theorem dX4_takeNumber_44 : decode cX4_takeNumber 44 = .ok (.bipush 57, 2) := by decide +kernel
theorem dX4_takeNumber_46 : decode cX4_takeNumber 46 = .ok (.if_icmp .gt 45, 3) := by decide +kernel
theorem dX4_takeNumber_49 : decode cX4_takeNumber 49 = .ok (.aload_n 0, 1) := by decide +kernel
theorem dX4_takeNumber_50 : decode cX4_takeNumber 50 = .ok (.ldc 56, 2) := by decide +kernel
theorem dX4_takeNumber_52 : decode cX4_takeNumber 52 = .ok (.aload_n 0, 1) := by decide +kernel
theorem dX4_takeNumber_53 : decode cX4_takeNumber 53 = .ok (.getfield 53, 3) := by decide +kernel
theorem dX4_takeNumber_56 : decode cX4_takeNumber 56 = .ok (.bipush 10, 2) := by decide +kernel
theorem dX4_takeNumber_58 : decode cX4_takeNumber 58 = .ok (.imul, 1) := by decide +kernel
theorem dX4_takeNumber_59 : decode cX4_takeNumber 59 = .ok (.aload_n 0, 1) := by decide +kernel
theorem dX4_takeNumber_60 : decode cX4_takeNumber 60 = .ok (.getfield 9, 3) := by decide +kernel
theorem dX4_takeNumber_63 : decode cX4_takeNumber 63 = .ok (.aload_n 0, 1) := by decide +kernel
theorem dX4_takeNumber_64 : decode cX4_takeNumber 64 = .ok (.getfield 28, 3) := by decide +kernel
theorem dX4_takeNumber_67 : decode cX4_takeNumber 67 = .ok (.baload, 1) := by decide +kernel
theorem dX4_takeNumber_68 : decode cX4_takeNumber 68 = .ok (.iadd, 1) := by decide +kernel
theorem dX4_takeNumber_69 : decode cX4_takeNumber 69 = .ok (.bipush 48, 2) := by decide +kernel
theorem dX4_takeNumber_71 : decode cX4_takeNumber 71 = .ok (.isub, 1) := by decide +kernel
theorem dX4_takeNumber_72 : decode cX4_takeNumber 72 = .ok (.invokestatic 15, 3) := by decide +kernel
theorem dX4_takeNumber_75 : decode cX4_takeNumber 75 = .ok (.putfield 53, 3) := by decide +kernel
theorem dX4_takeNumber_78 : decode cX4_takeNumber 78 = .ok (.aload_n 0, 1) := by decide +kernel
theorem dX4_takeNumber_79 : decode cX4_takeNumber 79 = .ok (.dup, 1) := by decide +kernel
theorem dX4_takeNumber_80 : decode cX4_takeNumber 80 = .ok (.getfield 28, 3) := by decide +kernel
theorem dX4_takeNumber_83 : decode cX4_takeNumber 83 = .ok (.iconst 1, 1) := by decide +kernel
theorem dX4_takeNumber_84 : decode cX4_takeNumber 84 = .ok (.iadd, 1) := by decide +kernel
theorem dX4_takeNumber_85 : decode cX4_takeNumber 85 = .ok (.putfield 28, 3) := by decide +kernel
theorem dX4_takeNumber_88 : decode cX4_takeNumber 88 = .ok (.goto (-78), 3) := by decide +kernel
theorem dX4_takeNumber_91 : decode cX4_takeNumber 91 = .ok (.return_, 1) := by decide +kernel
theorem dX4_takeString_0 : decode cX4_takeString 0 = .ok (.aload_n 0, 1) := by decide +kernel
theorem dX4_takeString_1 : decode cX4_takeString 1 = .ok (.dup, 1) := by decide +kernel
theorem dX4_takeString_2 : decode cX4_takeString 2 = .ok (.getfield 28, 3) := by decide +kernel
theorem dX4_takeString_5 : decode cX4_takeString 5 = .ok (.iconst 1, 1) := by decide +kernel
theorem dX4_takeString_6 : decode cX4_takeString 6 = .ok (.iadd, 1) := by decide +kernel
theorem dX4_takeString_7 : decode cX4_takeString 7 = .ok (.putfield 28, 3) := by decide +kernel
theorem dX4_takeString_10 : decode cX4_takeString 10 = .ok (.aload_n 0, 1) := by decide +kernel
theorem dX4_takeString_11 : decode cX4_takeString 11 = .ok (.getfield 28, 3) := by decide +kernel
theorem dX4_takeString_14 : decode cX4_takeString 14 = .ok (.aload_n 0, 1) := by decide +kernel
theorem dX4_takeString_15 : decode cX4_takeString 15 = .ok (.getfield 24, 3) := by decide +kernel
theorem dX4_takeString_18 : decode cX4_takeString 18 = .ok (.if_icmp .ge 58, 3) := by decide +kernel
theorem dX4_takeString_21 : decode cX4_takeString 21 = .ok (.aload_n 0, 1) := by decide +kernel
theorem dX4_takeString_22 : decode cX4_takeString 22 = .ok (.getfield 9, 3) := by decide +kernel
theorem dX4_takeString_25 : decode cX4_takeString 25 = .ok (.aload_n 0, 1) := by decide +kernel
theorem dX4_takeString_26 : decode cX4_takeString 26 = .ok (.getfield 28, 3) := by decide +kernel
theorem dX4_takeString_29 : decode cX4_takeString 29 = .ok (.baload, 1) := by decide +kernel
theorem dX4_takeString_30 : decode cX4_takeString 30 = .ok (.bipush 32, 2) := by decide +kernel
theorem dX4_takeString_32 : decode cX4_takeString 32 = .ok (.if_icmp .lt 44, 3) := by decide +kernel
theorem dX4_takeString_35 : decode cX4_takeString 35 = .ok (.aload_n 0, 1) := by decide +kernel
theorem dX4_takeString_36 : decode cX4_takeString 36 = .ok (.getfield 9, 3) := by decide +kernel
theorem dX4_takeString_39 : decode cX4_takeString 39 = .ok (.aload_n 0, 1) := by decide +kernel
theorem dX4_takeString_40 : decode cX4_takeString 40 = .ok (.getfield 28, 3) := by decide +kernel
theorem dX4_takeString_43 : decode cX4_takeString 43 = .ok (.baload, 1) := by decide +kernel
theorem dX4_takeString_44 : decode cX4_takeString 44 = .ok (.bipush 126, 2) := by decide +kernel
theorem dX4_takeString_46 : decode cX4_takeString 46 = .ok (.if_icmp .gt 30, 3) := by decide +kernel
theorem dX4_takeString_49 : decode cX4_takeString 49 = .ok (.aload_n 0, 1) := by decide +kernel
theorem dX4_takeString_50 : decode cX4_takeString 50 = .ok (.getfield 9, 3) := by decide +kernel
theorem dX4_takeString_53 : decode cX4_takeString 53 = .ok (.aload_n 0, 1) := by decide +kernel
theorem dX4_takeString_54 : decode cX4_takeString 54 = .ok (.getfield 28, 3) := by decide +kernel
theorem dX4_takeString_57 : decode cX4_takeString 57 = .ok (.baload, 1) := by decide +kernel
theorem dX4_takeString_58 : decode cX4_takeString 58 = .ok (.bipush 34, 2) := by decide +kernel
theorem dX4_takeString_60 : decode cX4_takeString 60 = .ok (.if_icmp .eq 16, 3) := by decide +kernel
theorem dX4_takeString_63 : decode cX4_takeString 63 = .ok (.aload_n 0, 1) := by decide +kernel
theorem dX4_takeString_64 : decode cX4_takeString 64 = .ok (.dup, 1) := by decide +kernel
theorem dX4_takeString_65 : decode cX4_takeString 65 = .ok (.getfield 28, 3) := by decide +kernel
theorem dX4_takeString_68 : decode cX4_takeString 68 = .ok (.iconst 1, 1) := by decide +kernel
theorem dX4_takeString_69 : decode cX4_takeString 69 = .ok (.iadd, 1) := by decide +kernel
theorem dX4_takeString_70 : decode cX4_takeString 70 = .ok (.putfield 28, 3) := by decide +kernel
theorem dX4_takeString_73 : decode cX4_takeString 73 = .ok (.goto (-63), 3) := by decide +kernel
theorem dX4_takeString_76 : decode cX4_takeString 76 = .ok (.aload_n 0, 1) := by decide +kernel
theorem dX4_takeString_77 : decode cX4_takeString 77 = .ok (.getfield 28, 3) := by decide +kernel
theorem dX4_takeString_80 : decode cX4_takeString 80 = .ok (.aload_n 0, 1) := by decide +kernel
theorem dX4_takeString_81 : decode cX4_takeString 81 = .ok (.getfield 24, 3) := by decide +kernel
theorem dX4_takeString_84 : decode cX4_takeString 84 = .ok (.if_icmp .ge 21, 3) := by decide +kernel
theorem dX4_takeString_87 : decode cX4_takeString 87 = .ok (.aload_n 0, 1) := by decide +kernel
theorem dX4_takeString_88 : decode cX4_takeString 88 = .ok (.getfield 9, 3) := by decide +kernel
theorem dX4_takeString_91 : decode cX4_takeString 91 = .ok (.aload_n 0, 1) := by decide +kernel
theorem dX4_takeString_92 : decode cX4_takeString 92 = .ok (.getfield 28, 3) := by decide +kernel
theorem dX4_takeString_95 : decode cX4_takeString 95 = .ok (.baload, 1) := by decide +kernel
theorem dX4_takeString_96 : decode cX4_takeString 96 = .ok (.bipush 34, 2) := by decide +kernel
theorem dX4_takeString_98 : decode cX4_takeString 98 = .ok (.if_icmp .ne 7, 3) := by decide +kernel
theorem dX4_takeString_101 : decode cX4_takeString 101 = .ok (.iconst 1, 1) := by decide +kernel
theorem dX4_takeString_102 : decode cX4_takeString 102 = .ok (.goto 4, 3) := by decide +kernel
theorem dX4_takeString_105 : decode cX4_takeString 105 = .ok (.iconst 0, 1) := by decide +kernel
theorem dX4_takeString_106 : decode cX4_takeString 106 = .ok (.istore_n 1, 1) := by decide +kernel
theorem dX4_takeString_107 : decode cX4_takeString 107 = .ok (.aload_n 0, 1) := by decide +kernel
theorem dX4_takeString_108 : decode cX4_takeString 108 = .ok (.iload_n 1, 1) := by decide +kernel
theorem dX4_takeString_109 : decode cX4_takeString 109 = .ok (.ifCond .eq 7, 3) := by decide +kernel
theorem dX4_takeString_112 : decode cX4_takeString 112 = .ok (.iconst 4, 1) := by decide +kernel
theorem dX4_takeString_113 : decode cX4_takeString 113 = .ok (.goto 5, 3) := by decide +kernel
theorem dX4_takeString_116 : decode cX4_takeString 116 = .ok (.bipush 6, 2) := by decide +kernel
theorem dX4_takeString_118 : decode cX4_takeString 118 = .ok (.putfield 37, 3) := by decide +kernel
theorem dX4_takeString_121 : decode cX4_takeString 121 = .ok (.aload_n 0, 1) := by decide +kernel
theorem dX4_takeString_122 : decode cX4_takeString 122 = .ok (.iload_n 1, 1) := by decide +kernel
theorem dX4_takeString_123 : decode cX4_takeString 123 = .ok (.ifCond .eq 12, 3) := by decide +kernel
theorem dX4_takeString_126 : decode cX4_takeString 126 = .ok (.aload_n 0, 1) := by decide +kernel
theorem dX4_takeString_127 : decode cX4_takeString 127 = .ok (.getfield 28, 3) := by decide +kernel
theorem dX4_takeString_130 : decode cX4_takeString 130 = .ok (.iconst 1, 1) := by decide +kernel
theorem dX4_takeString_131 : decode cX4_takeString 131 = .ok (.iadd, 1) := by decide +kernel
theorem dX4_takeString_132 : decode cX4_takeString 132 = .ok (.goto 7, 3) := by decide +kernel
theorem dX4_takeString_135 : decode cX4_takeString 135 = .ok (.aload_n 0, 1) := by decide +kernel
theorem dX4_takeString_136 : decode cX4_takeString 136 = .ok (.getfield 28, 3) := by decide +kernel
theorem dX4_takeString_139 : decode cX4_takeString 139 = .ok (.putfield 28, 3) := by decide +kernel
theorem dX4_takeString_142 : decode cX4_takeString 142 = .ok (.return_, 1) := by decide +kernel
theorem dX4_takeSingle_0 : decode cX4_takeSingle 0 = .ok (.aload_n 0, 1) := by decide +kernel
theorem dX4_takeSingle_1 : decode cX4_takeSingle 1 = .ok (.dup, 1) := by decide +kernel
theorem dX4_takeSingle_2 : decode cX4_takeSingle 2 = .ok (.getfield 28, 3) := by decide +kernel
theorem dX4_takeSingle_5 : decode cX4_takeSingle 5 = .ok (.iconst 1, 1) := by decide +kernel
theorem dX4_takeSingle_6 : decode cX4_takeSingle 6 = .ok (.iadd, 1) := by decide +kernel
theorem dX4_takeSingle_7 : decode cX4_takeSingle 7 = .ok (.putfield 28, 3) := by decide +kernel
theorem dX4_takeSingle_10 : decode cX4_takeSingle 10 = .ok (.aload_n 0, 1) := by decide +kernel
theorem dX4_takeSingle_11 : decode cX4_takeSingle 11 = .ok (.iload_n 1, 1) := by decide +kernel
theorem dX4_takeSingle_12 : decode cX4_takeSingle 12 = .ok (.bipush 65, 2) := by decide +kernel
theorem dX4_takeSingle_14 : decode cX4_takeSingle 14 = .ok (.isub, 1) := by decide +kernel
theorem dX4_takeSingle_15 : decode cX4_takeSingle 15 = .ok (.putfield 53, 3) := by decide +kernel
theorem dX4_takeSingle_18 : decode cX4_takeSingle 18 = .ok (.iload_n 1, 1) := by decide +kernel
theorem dX4_takeSingle_19 : decode cX4_takeSingle 19 = .ok (.bipush 59, 2) := by decide +kernel
theorem dX4_takeSingle_21 : decode cX4_takeSingle 21 = .ok (.if_icmp .ne 11, 3) := by decide +kernel
theorem dX4_takeSingle_24 : decode cX4_takeSingle 24 = .ok (.aload_n 0, 1) := by decide +kernel
theorem dX4_takeSingle_25 : decode cX4_takeSingle 25 = .ok (.iconst 5, 1) := by decide +kernel
theorem dX4_takeSingle_26 : decode cX4_takeSingle 26 = .ok (.putfield 37, 3) := by decide +kernel
theorem dX4_takeSingle_29 : decode cX4_takeSingle 29 = .ok (.goto 29, 3) := by decide +kernel
theorem dX4_takeSingle_32 : decode cX4_takeSingle 32 = .ok (.aload_n 0, 1) := by decide +kernel
theorem dX4_takeSingle_33 : decode cX4_takeSingle 33 = .ok (.aload_n 0, 1) := by decide +kernel
theorem dX4_takeSingle_34 : decode cX4_takeSingle 34 = .ok (.getfield 53, 3) := by decide +kernel
theorem dX4_takeSingle_37 : decode cX4_takeSingle 37 = .ok (.ifCond .lt 16, 3) := by decide +kernel
theorem dX4_takeSingle_40 : decode cX4_takeSingle 40 = .ok (.aload_n 0, 1) := by decide +kernel
theorem dX4_takeSingle_41 : decode cX4_takeSingle 41 = .ok (.getfield 53, 3) := by decide +kernel
theorem dX4_takeSingle_44 : decode cX4_takeSingle 44 = .ok (.bipush 8, 2) := by decide +kernel
theorem dX4_takeSingle_46 : decode cX4_takeSingle 46 = .ok (.if_icmp .ge 7, 3) := by decide +kernel
theorem dX4_takeSingle_49 : decode cX4_takeSingle 49 = .ok (.iconst 2, 1) := by decide +kernel
theorem dX4_takeSingle_50 : decode cX4_takeSingle 50 = .ok (.goto 5, 3) := by decide +kernel
theorem dX4_takeSingle_53 : decode cX4_takeSingle 53 = .ok (.bipush 6, 2) := by decide +kernel
theorem dX4_takeSingle_55 : decode cX4_takeSingle 55 = .ok (.putfield 37, 3) := by decide +kernel
theorem dX4_takeSingle_58 : decode cX4_takeSingle 58 = .ok (.return_, 1) := by decide +kernel
theorem dX4_isWord_0 : decode cX4_isWord 0 = .ok (.aload_n 0, 1) := by decide +kernel
theorem dX4_isWord_1 : decode cX4_isWord 1 = .ok (.getfield 37, 3) := by decide +kernel
theorem dX4_isWord_4 : decode cX4_isWord 4 = .ok (.iconst 1, 1) := by decide +kernel
theorem dX4_isWord_5 : decode cX4_isWord 5 = .ok (.if_icmp .ne 19, 3) := by decide +kernel
theorem dX4_isWord_8 : decode cX4_isWord 8 = .ok (.aload_n 0, 1) := by decide +kernel
theorem dX4_isWord_9 : decode cX4_isWord 9 = .ok (.getfield 28, 3) := by decide +kernel
theorem dX4_isWord_12 : decode cX4_isWord 12 = .ok (.aload_n 0, 1) := by decide +kernel
theorem dX4_isWord_13 : decode cX4_isWord 13 = .ok (.getfield 34, 3) := by decide +kernel
theorem dX4_isWord_16 : decode cX4_isWord 16 = .ok (.isub, 1) := by decide +kernel
theorem dX4_isWord_17 : decode cX4_isWord 17 = .ok (.aload_n 1, 1) := by decide +kernel
theorem dX4_isWord_18 : decode cX4_isWord 18 = .ok (.invokevirtual 57, 3) := by decide +kernel
theorem dX4_isWord_21 : decode cX4_isWord 21 = .ok (.if_icmp .eq 5, 3) := by decide +kernel
theorem dX4_isWord_24 : decode cX4_isWord 24 = .ok (.iconst 0, 1) := by decide +kernel
theorem dX4_isWord_25 : decode cX4_isWord 25 = .ok (.ireturn, 1) := by decide +kernel
theorem dX4_isWord_26 : decode cX4_isWord 26 = .ok (.iconst 0, 1) := by decide +kernel
theorem dX4_isWord_27 : decode cX4_isWord 27 = .ok (.istore_n 2, 1) := by decide +kernel
theorem dX4_isWord_28 : decode cX4_isWord 28 = .ok (.iload_n 2, 1) := by decide +kernel
theorem dX4_isWord_29 : decode cX4_isWord 29 = .ok (.aload_n 1, 1) := by decide +kernel
theorem dX4_isWord_30 : decode cX4_isWord 30 = .ok (.invokevirtual 57, 3) := by decide +kernel
theorem dX4_isWord_33 : decode cX4_isWord 33 = .ok (.if_icmp .ge 30, 3) := by decide +kernel
theorem dX4_isWord_36 : decode cX4_isWord 36 = .ok (.aload_n 0, 1) := by decide +kernel
theorem dX4_isWord_37 : decode cX4_isWord 37 = .ok (.getfield 9, 3) := by decide +kernel
theorem dX4_isWord_40 : decode cX4_isWord 40 = .ok (.aload_n 0, 1) := by decide +kernel
theorem dX4_isWord_41 : decode cX4_isWord 41 = .ok (.getfield 34, 3) := by decide +kernel
theorem dX4_isWord_44 : decode cX4_isWord 44 = .ok (.iload_n 2, 1) := by decide +kernel
theorem dX4_isWord_45 : decode cX4_isWord 45 = .ok (.iadd, 1) := by decide +kernel
theorem dX4_isWord_46 : decode cX4_isWord 46 = .ok (.baload, 1) := by decide +kernel
theorem dX4_isWord_47 : decode cX4_isWord 47 = .ok (.aload_n 1, 1) := by decide +kernel
theorem dX4_isWord_48 : decode cX4_isWord 48 = .ok (.iload_n 2, 1) := by decide +kernel
theorem dX4_isWord_49 : decode cX4_isWord 49 = .ok (.invokevirtual 62, 3) := by decide +kernel
theorem dX4_isWord_52 : decode cX4_isWord 52 = .ok (.if_icmp .eq 5, 3) := by decide +kernel
theorem dX4_isWord_55 : decode cX4_isWord 55 = .ok (.iconst 0, 1) := by decide +kernel
theorem dX4_isWord_56 : decode cX4_isWord 56 = .ok (.ireturn, 1) := by decide +kernel
theorem dX4_isWord_57 : decode cX4_isWord 57 = .ok (.iinc 2 1, 3) := by decide +kernel
theorem dX4_isWord_60 : decode cX4_isWord 60 = .ok (.goto (-32), 3) := by decide +kernel
theorem dX4_isWord_63 : decode cX4_isWord 63 = .ok (.iconst 1, 1) := by decide +kernel
theorem dX4_isWord_64 : decode cX4_isWord 64 = .ok (.ireturn, 1) := by decide +kernel
theorem dX4_stringFrom_0 : decode cX4_stringFrom 0 = .ok (.aload_n 0, 1) := by decide +kernel
theorem dX4_stringFrom_1 : decode cX4_stringFrom 1 = .ok (.getfield 34, 3) := by decide +kernel
theorem dX4_stringFrom_4 : decode cX4_stringFrom 4 = .ok (.iconst 1, 1) := by decide +kernel
theorem dX4_stringFrom_5 : decode cX4_stringFrom 5 = .ok (.iadd, 1) := by decide +kernel
theorem dX4_stringFrom_6 : decode cX4_stringFrom 6 = .ok (.ireturn, 1) := by decide +kernel
theorem dX4_stringLength_0 : decode cX4_stringLength 0 = .ok (.aload_n 0, 1) := by decide +kernel
theorem dX4_stringLength_1 : decode cX4_stringLength 1 = .ok (.getfield 28, 3) := by decide +kernel
theorem dX4_stringLength_4 : decode cX4_stringLength 4 = .ok (.aload_n 0, 1) := by decide +kernel
theorem dX4_stringLength_5 : decode cX4_stringLength 5 = .ok (.getfield 34, 3) := by decide +kernel
theorem dX4_stringLength_8 : decode cX4_stringLength 8 = .ok (.isub, 1) := by decide +kernel
theorem dX4_stringLength_9 : decode cX4_stringLength 9 = .ok (.iconst 2, 1) := by decide +kernel
theorem dX4_stringLength_10 : decode cX4_stringLength 10 = .ok (.isub, 1) := by decide +kernel
theorem dX4_stringLength_11 : decode cX4_stringLength 11 = .ok (.ireturn, 1) := by decide +kernel
theorem dX5_init_0 : decode cX5_init 0 = .ok (.aload_n 0, 1) := by decide +kernel
theorem dX5_init_1 : decode cX5_init 1 = .ok (.invokespecial 3, 3) := by decide +kernel
theorem dX5_init_4 : decode cX5_init 4 = .ok (.aload_n 0, 1) := by decide +kernel
theorem dX5_init_5 : decode cX5_init 5 = .ok (.iconst 1, 1) := by decide +kernel
theorem dX5_init_6 : decode cX5_init 6 = .ok (.putfield 9, 3) := by decide +kernel
theorem dX5_init_9 : decode cX5_init 9 = .ok (.aload_n 0, 1) := by decide +kernel
theorem dX5_init_10 : decode cX5_init 10 = .ok (.iconst 4, 1) := by decide +kernel
theorem dX5_init_11 : decode cX5_init 11 = .ok (.newarray .int, 2) := by decide +kernel
theorem dX5_init_13 : decode cX5_init 13 = .ok (.putfield 15, 3) := by decide +kernel
theorem dX5_init_16 : decode cX5_init 16 = .ok (.aload_n 0, 1) := by decide +kernel
theorem dX5_init_17 : decode cX5_init 17 = .ok (.iconst 4, 1) := by decide +kernel
theorem dX5_init_18 : decode cX5_init 18 = .ok (.newarray .int, 2) := by decide +kernel
theorem dX5_init_20 : decode cX5_init 20 = .ok (.putfield 19, 3) := by decide +kernel
theorem dX5_init_23 : decode cX5_init 23 = .ok (.aload_n 0, 1) := by decide +kernel
theorem dX5_init_24 : decode cX5_init 24 = .ok (.bipush 8, 2) := by decide +kernel
theorem dX5_init_26 : decode cX5_init 26 = .ok (.newarray .int, 2) := by decide +kernel
theorem dX5_init_28 : decode cX5_init 28 = .ok (.putfield 22, 3) := by decide +kernel
theorem dX5_init_31 : decode cX5_init 31 = .ok (.aload_n 0, 1) := by decide +kernel
theorem dX5_init_32 : decode cX5_init 32 = .ok (.bipush 8, 2) := by decide +kernel
theorem dX5_init_34 : decode cX5_init 34 = .ok (.newarray .int, 2) := by decide +kernel
theorem dX5_init_36 : decode cX5_init 36 = .ok (.putfield 25, 3) := by decide +kernel
theorem dX5_init_39 : decode cX5_init 39 = .ok (.aload_n 0, 1) := by decide +kernel
theorem dX5_init_40 : decode cX5_init 40 = .ok (.bipush 40, 2) := by decide +kernel
theorem dX5_init_42 : decode cX5_init 42 = .ok (.newarray .int, 2) := by decide +kernel
theorem dX5_init_44 : decode cX5_init 44 = .ok (.putfield 28, 3) := by decide +kernel
theorem dX5_init_47 : decode cX5_init 47 = .ok (.aload_n 0, 1) := by decide +kernel
theorem dX5_init_48 : decode cX5_init 48 = .ok (.bipush 40, 2) := by decide +kernel
theorem dX5_init_50 : decode cX5_init 50 = .ok (.newarray .int, 2) := by decide +kernel
theorem dX5_init_52 : decode cX5_init 52 = .ok (.putfield 31, 3) := by decide +kernel
theorem dX5_init_55 : decode cX5_init 55 = .ok (.aload_n 0, 1) := by decide +kernel
theorem dX5_init_56 : decode cX5_init 56 = .ok (.sipush 160, 3) := by decide +kernel
theorem dX5_init_59 : decode cX5_init 59 = .ok (.newarray .int, 2) := by decide +kernel
theorem dX5_init_61 : decode cX5_init 61 = .ok (.putfield 34, 3) := by decide +kernel
theorem dX5_init_64 : decode cX5_init 64 = .ok (.aload_n 0, 1) := by decide +kernel
theorem dX5_init_65 : decode cX5_init 65 = .ok (.sipush 160, 3) := by decide +kernel
theorem dX5_init_68 : decode cX5_init 68 = .ok (.newarray .int, 2) := by decide +kernel
theorem dX5_init_70 : decode cX5_init 70 = .ok (.putfield 37, 3) := by decide +kernel
theorem dX5_init_73 : decode cX5_init 73 = .ok (.return_, 1) := by decide +kernel
theorem dX5_clear_0 : decode cX5_clear 0 = .ok (.aload_n 0, 1) := by decide +kernel
theorem dX5_clear_1 : decode cX5_clear 1 = .ok (.iconst 1, 1) := by decide +kernel
theorem dX5_clear_2 : decode cX5_clear 2 = .ok (.putfield 9, 3) := by decide +kernel
theorem dX5_clear_5 : decode cX5_clear 5 = .ok (.aload_n 0, 1) := by decide +kernel
theorem dX5_clear_6 : decode cX5_clear 6 = .ok (.iconst 0, 1) := by decide +kernel
theorem dX5_clear_7 : decode cX5_clear 7 = .ok (.putfield 40, 3) := by decide +kernel
theorem dX5_clear_10 : decode cX5_clear 10 = .ok (.aload_n 0, 1) := by decide +kernel
theorem dX5_clear_11 : decode cX5_clear 11 = .ok (.iconst 0, 1) := by decide +kernel
theorem dX5_clear_12 : decode cX5_clear 12 = .ok (.putfield 43, 3) := by decide +kernel
theorem dX5_clear_15 : decode cX5_clear 15 = .ok (.aload_n 0, 1) := by decide +kernel
theorem dX5_clear_16 : decode cX5_clear 16 = .ok (.iconst 0, 1) := by decide +kernel
theorem dX5_clear_17 : decode cX5_clear 17 = .ok (.putfield 46, 3) := by decide +kernel
theorem dX5_clear_20 : decode cX5_clear 20 = .ok (.aload_n 0, 1) := by decide +kernel
theorem dX5_clear_21 : decode cX5_clear 21 = .ok (.iconst 0, 1) := by decide +kernel
theorem dX5_clear_22 : decode cX5_clear 22 = .ok (.putfield 49, 3) := by decide +kernel
theorem dX5_clear_25 : decode cX5_clear 25 = .ok (.aload_n 0, 1) := by decide +kernel
theorem dX5_clear_26 : decode cX5_clear 26 = .ok (.getfield 15, 3) := by decide +kernel
theorem dX5_clear_29 : decode cX5_clear 29 = .ok (.iconst 0, 1) := by decide +kernel
theorem dX5_clear_30 : decode cX5_clear 30 = .ok (.invokestatic 52, 3) := by decide +kernel
theorem dX5_clear_33 : decode cX5_clear 33 = .ok (.aload_n 0, 1) := by decide +kernel
theorem dX5_clear_34 : decode cX5_clear 34 = .ok (.getfield 19, 3) := by decide +kernel
theorem dX5_clear_37 : decode cX5_clear 37 = .ok (.iconst 0, 1) := by decide +kernel
theorem dX5_clear_38 : decode cX5_clear 38 = .ok (.invokestatic 52, 3) := by decide +kernel
theorem dX5_clear_41 : decode cX5_clear 41 = .ok (.aload_n 0, 1) := by decide +kernel
theorem dX5_clear_42 : decode cX5_clear 42 = .ok (.getfield 22, 3) := by decide +kernel
theorem dX5_clear_45 : decode cX5_clear 45 = .ok (.iconst 0, 1) := by decide +kernel
theorem dX5_clear_46 : decode cX5_clear 46 = .ok (.invokestatic 52, 3) := by decide +kernel
theorem dX5_clear_49 : decode cX5_clear 49 = .ok (.aload_n 0, 1) := by decide +kernel
theorem dX5_clear_50 : decode cX5_clear 50 = .ok (.getfield 25, 3) := by decide +kernel
theorem dX5_clear_53 : decode cX5_clear 53 = .ok (.iconst 0, 1) := by decide +kernel
theorem dX5_clear_54 : decode cX5_clear 54 = .ok (.invokestatic 52, 3) := by decide +kernel
theorem dX5_clear_57 : decode cX5_clear 57 = .ok (.return_, 1) := by decide +kernel
theorem dX5_hasTongue_0 : decode cX5_hasTongue 0 = .ok (.iload_n 1, 1) := by decide +kernel
theorem dX5_hasTongue_1 : decode cX5_hasTongue 1 = .ok (.ifCond .lt 20, 3) := by decide +kernel
theorem dX5_hasTongue_4 : decode cX5_hasTongue 4 = .ok (.iload_n 1, 1) := by decide +kernel
theorem dX5_hasTongue_5 : decode cX5_hasTongue 5 = .ok (.aload_n 0, 1) := by decide +kernel
theorem dX5_hasTongue_6 : decode cX5_hasTongue 6 = .ok (.getfield 9, 3) := by decide +kernel
theorem dX5_hasTongue_9 : decode cX5_hasTongue 9 = .ok (.if_icmp .ge 12, 3) := by decide +kernel
theorem dX5_hasTongue_12 : decode cX5_hasTongue 12 = .ok (.iload_n 1, 1) := by decide +kernel
theorem dX5_hasTongue_13 : decode cX5_hasTongue 13 = .ok (.iconst 4, 1) := by decide +kernel
theorem dX5_hasTongue_14 : decode cX5_hasTongue 14 = .ok (.if_icmp .ge 7, 3) := by decide +kernel
theorem dX5_hasTongue_17 : decode cX5_hasTongue 17 = .ok (.iconst 1, 1) := by decide +kernel
theorem dX5_hasTongue_18 : decode cX5_hasTongue 18 = .ok (.goto 4, 3) := by decide +kernel
theorem dX5_hasTongue_21 : decode cX5_hasTongue 21 = .ok (.iconst 0, 1) := by decide +kernel
theorem dX5_hasTongue_22 : decode cX5_hasTongue 22 = .ok (.ireturn, 1) := by decide +kernel
theorem dX5_hasTitle_0 : decode cX5_hasTitle 0 = .ok (.iload_n 1, 1) := by decide +kernel
theorem dX5_hasTitle_1 : decode cX5_hasTitle 1 = .ok (.ifCond .lt 21, 3) := by decide +kernel
theorem dX5_hasTitle_4 : decode cX5_hasTitle 4 = .ok (.iload_n 1, 1) := by decide +kernel
theorem dX5_hasTitle_5 : decode cX5_hasTitle 5 = .ok (.aload_n 0, 1) := by decide +kernel
theorem dX5_hasTitle_6 : decode cX5_hasTitle 6 = .ok (.getfield 40, 3) := by decide +kernel
theorem dX5_hasTitle_9 : decode cX5_hasTitle 9 = .ok (.if_icmp .ge 13, 3) := by decide +kernel
theorem dX5_hasTitle_12 : decode cX5_hasTitle 12 = .ok (.iload_n 1, 1) := by decide +kernel
theorem dX5_hasTitle_13 : decode cX5_hasTitle 13 = .ok (.bipush 40, 2) := by decide +kernel
theorem dX5_hasTitle_15 : decode cX5_hasTitle 15 = .ok (.if_icmp .ge 7, 3) := by decide +kernel
theorem dX5_hasTitle_18 : decode cX5_hasTitle 18 = .ok (.iconst 1, 1) := by decide +kernel
theorem dX5_hasTitle_19 : decode cX5_hasTitle 19 = .ok (.goto 4, 3) := by decide +kernel
theorem dX5_hasTitle_22 : decode cX5_hasTitle 22 = .ok (.iconst 0, 1) := by decide +kernel
theorem dX5_hasTitle_23 : decode cX5_hasTitle 23 = .ok (.ireturn, 1) := by decide +kernel
theorem dX5_hasCut_0 : decode cX5_hasCut 0 = .ok (.iload_n 1, 1) := by decide +kernel
theorem dX5_hasCut_1 : decode cX5_hasCut 1 = .ok (.ifCond .lt 22, 3) := by decide +kernel
theorem dX5_hasCut_4 : decode cX5_hasCut 4 = .ok (.iload_n 1, 1) := by decide +kernel
theorem dX5_hasCut_5 : decode cX5_hasCut 5 = .ok (.bipush 8, 2) := by decide +kernel
theorem dX5_hasCut_7 : decode cX5_hasCut 7 = .ok (.if_icmp .ge 16, 3) := by decide +kernel
theorem dX5_hasCut_10 : decode cX5_hasCut 10 = .ok (.aload_n 0, 1) := by decide +kernel
theorem dX5_hasCut_11 : decode cX5_hasCut 11 = .ok (.getfield 25, 3) := by decide +kernel
theorem dX5_hasCut_14 : decode cX5_hasCut 14 = .ok (.iload_n 1, 1) := by decide +kernel
theorem dX5_hasCut_15 : decode cX5_hasCut 15 = .ok (.iaload, 1) := by decide +kernel
theorem dX5_hasCut_16 : decode cX5_hasCut 16 = .ok (.ifCond .le 7, 3) := by decide +kernel
theorem dX5_hasCut_19 : decode cX5_hasCut 19 = .ok (.iconst 1, 1) := by decide +kernel
theorem dX5_hasCut_20 : decode cX5_hasCut 20 = .ok (.goto 4, 3) := by decide +kernel
theorem dX5_hasCut_23 : decode cX5_hasCut 23 = .ok (.iconst 0, 1) := by decide +kernel
theorem dX5_hasCut_24 : decode cX5_hasCut 24 = .ok (.ireturn, 1) := by decide +kernel
theorem dX5_isFullOfMarks_0 : decode cX5_isFullOfMarks 0 = .ok (.aload_n 0, 1) := by decide +kernel
theorem dX5_isFullOfMarks_1 : decode cX5_isFullOfMarks 1 = .ok (.getfield 46, 3) := by decide +kernel
theorem dX5_isFullOfMarks_4 : decode cX5_isFullOfMarks 4 = .ok (.bipush 40, 2) := by decide +kernel
theorem dX5_isFullOfMarks_6 : decode cX5_isFullOfMarks 6 = .ok (.if_icmp .lt 7, 3) := by decide +kernel
theorem dX5_isFullOfMarks_9 : decode cX5_isFullOfMarks 9 = .ok (.iconst 1, 1) := by decide +kernel
theorem dX5_isFullOfMarks_10 : decode cX5_isFullOfMarks 10 = .ok (.goto 4, 3) := by decide +kernel
theorem dX5_isFullOfMarks_13 : decode cX5_isFullOfMarks 13 = .ok (.iconst 0, 1) := by decide +kernel
theorem dX5_isFullOfMarks_14 : decode cX5_isFullOfMarks 14 = .ok (.ireturn, 1) := by decide +kernel
theorem dX5_isFullOfCuts_0 : decode cX5_isFullOfCuts 0 = .ok (.aload_n 0, 1) := by decide +kernel
theorem dX5_isFullOfCuts_1 : decode cX5_isFullOfCuts 1 = .ok (.getfield 43, 3) := by decide +kernel
theorem dX5_isFullOfCuts_4 : decode cX5_isFullOfCuts 4 = .ok (.bipush 8, 2) := by decide +kernel
theorem dX5_isFullOfCuts_6 : decode cX5_isFullOfCuts 6 = .ok (.if_icmp .lt 7, 3) := by decide +kernel
theorem dX5_isFullOfCuts_9 : decode cX5_isFullOfCuts 9 = .ok (.iconst 1, 1) := by decide +kernel
theorem dX5_isFullOfCuts_10 : decode cX5_isFullOfCuts 10 = .ok (.goto 4, 3) := by decide +kernel
theorem dX5_isFullOfCuts_13 : decode cX5_isFullOfCuts 13 = .ok (.iconst 0, 1) := by decide +kernel
theorem dX5_isFullOfCuts_14 : decode cX5_isFullOfCuts 14 = .ok (.ireturn, 1) := by decide +kernel
theorem dX5_tells_0 : decode cX5_tells 0 = .ok (.aload_n 0, 1) := by decide +kernel
theorem dX5_tells_1 : decode cX5_tells 1 = .ok (.iload_n 2, 1) := by decide +kernel
theorem dX5_tells_2 : decode cX5_tells 2 = .ok (.invokevirtual 58, 3) := by decide +kernel
theorem dX5_tells_5 : decode cX5_tells 5 = .ok (.ifCond .eq 19, 3) := by decide +kernel
theorem dX5_tells_8 : decode cX5_tells 8 = .ok (.iload_n 2, 1) := by decide +kernel
theorem dX5_tells_9 : decode cX5_tells 9 = .ok (.aload_n 1, 1) := by decide +kernel
theorem dX5_tells_10 : decode cX5_tells 10 = .ok (.arraylength, 1) := by decide +kernel
theorem dX5_tells_11 : decode cX5_tells 11 = .ok (.if_icmp .ge 13, 3) := by decide +kernel
theorem dX5_tells_14 : decode cX5_tells 14 = .ok (.aload_n 1, 1) := by decide +kernel
theorem dX5_tells_15 : decode cX5_tells 15 = .ok (.iload_n 2, 1) := by decide +kernel
theorem dX5_tells_16 : decode cX5_tells 16 = .ok (.iaload, 1) := by decide +kernel
theorem dX5_tells_17 : decode cX5_tells 17 = .ok (.ifCond .le 7, 3) := by decide +kernel
theorem dX5_tells_20 : decode cX5_tells 20 = .ok (.iconst 1, 1) := by decide +kernel
theorem dX5_tells_21 : decode cX5_tells 21 = .ok (.goto 4, 3) := by decide +kernel
theorem dX5_tells_24 : decode cX5_tells 24 = .ok (.iconst 0, 1) := by decide +kernel
theorem dX5_tells_25 : decode cX5_tells 25 = .ok (.ireturn, 1) := by decide +kernel
theorem dX5_tell_0 : decode cX5_tell 0 = .ok (.aload_n 0, 1) := by decide +kernel
theorem dX5_tell_1 : decode cX5_tell 1 = .ok (.iload_n 2, 1) := by decide +kernel
theorem dX5_tell_2 : decode cX5_tell 2 = .ok (.invokevirtual 58, 3) := by decide +kernel
theorem dX5_tell_5 : decode cX5_tell 5 = .ok (.ifCond .eq 13, 3) := by decide +kernel
theorem dX5_tell_8 : decode cX5_tell 8 = .ok (.iload_n 2, 1) := by decide +kernel
theorem dX5_tell_9 : decode cX5_tell 9 = .ok (.aload_n 1, 1) := by decide +kernel
theorem dX5_tell_10 : decode cX5_tell 10 = .ok (.arraylength, 1) := by decide +kernel
theorem dX5_tell_11 : decode cX5_tell 11 = .ok (.if_icmp .ge 7, 3) := by decide +kernel
theorem dX5_tell_14 : decode cX5_tell 14 = .ok (.aload_n 1, 1) := by decide +kernel
theorem dX5_tell_15 : decode cX5_tell 15 = .ok (.iload_n 2, 1) := by decide +kernel
theorem dX5_tell_16 : decode cX5_tell 16 = .ok (.iload_n 3, 1) := by decide +kernel
theorem dX5_tell_17 : decode cX5_tell 17 = .ok (.iastore, 1) := by decide +kernel
theorem dX5_tell_18 : decode cX5_tell 18 = .ok (.return_, 1) := by decide +kernel
theorem dX5_tellsBeats_0 : decode cX5_tellsBeats 0 = .ok (.aload_n 0, 1) := by decide +kernel
theorem dX5_tellsBeats_1 : decode cX5_tellsBeats 1 = .ok (.getfield 49, 3) := by decide +kernel
theorem dX5_tellsBeats_4 : decode cX5_tellsBeats 4 = .ok (.ifCond .le 7, 3) := by decide +kernel
theorem dX5_tellsBeats_7 : decode cX5_tellsBeats 7 = .ok (.iconst 1, 1) := by decide +kernel
theorem dX5_tellsBeats_8 : decode cX5_tellsBeats 8 = .ok (.goto 4, 3) := by decide +kernel
theorem dX5_tellsBeats_11 : decode cX5_tellsBeats 11 = .ok (.iconst 0, 1) := by decide +kernel
theorem dX5_tellsBeats_12 : decode cX5_tellsBeats 12 = .ok (.ireturn, 1) := by decide +kernel
theorem dX5_tellBeats_0 : decode cX5_tellBeats 0 = .ok (.aload_n 0, 1) := by decide +kernel
theorem dX5_tellBeats_1 : decode cX5_tellBeats 1 = .ok (.iload_n 1, 1) := by decide +kernel
theorem dX5_tellBeats_2 : decode cX5_tellBeats 2 = .ok (.putfield 49, 3) := by decide +kernel
theorem dX5_tellBeats_5 : decode cX5_tellBeats 5 = .ok (.return_, 1) := by decide +kernel
theorem dX5_widthOf_0 : decode cX5_widthOf 0 = .ok (.aload_n 0, 1) := by decide +kernel
theorem dX5_widthOf_1 : decode cX5_widthOf 1 = .ok (.aload_n 0, 1) := by decide +kernel
theorem dX5_widthOf_2 : decode cX5_widthOf 2 = .ok (.getfield 15, 3) := by decide +kernel
theorem dX5_widthOf_5 : decode cX5_widthOf 5 = .ok (.iload_n 1, 1) := by decide +kernel
theorem dX5_widthOf_6 : decode cX5_widthOf 6 = .ok (.invokevirtual 62, 3) := by decide +kernel
theorem dX5_widthOf_9 : decode cX5_widthOf 9 = .ok (.ifCond .eq 12, 3) := by decide +kernel
theorem dX5_widthOf_12 : decode cX5_widthOf 12 = .ok (.aload_n 0, 1) := by decide +kernel
theorem dX5_widthOf_13 : decode cX5_widthOf 13 = .ok (.getfield 15, 3) := by decide +kernel
theorem dX5_widthOf_16 : decode cX5_widthOf 16 = .ok (.iload_n 1, 1) := by decide +kernel
theorem dX5_widthOf_17 : decode cX5_widthOf 17 = .ok (.iaload, 1) := by decide +kernel
theorem dX5_widthOf_18 : decode cX5_widthOf 18 = .ok (.goto 5, 3) := by decide +kernel
theorem dX5_widthOf_21 : decode cX5_widthOf 21 = .ok (.bipush 20, 2) := by decide +kernel
theorem dX5_widthOf_23 : decode cX5_widthOf 23 = .ok (.ireturn, 1) := by decide +kernel
theorem dX5_speedOf_0 : decode cX5_speedOf 0 = .ok (.aload_n 0, 1) := by decide +kernel
theorem dX5_speedOf_1 : decode cX5_speedOf 1 = .ok (.aload_n 0, 1) := by decide +kernel
theorem dX5_speedOf_2 : decode cX5_speedOf 2 = .ok (.getfield 19, 3) := by decide +kernel
theorem dX5_speedOf_5 : decode cX5_speedOf 5 = .ok (.iload_n 1, 1) := by decide +kernel
theorem dX5_speedOf_6 : decode cX5_speedOf 6 = .ok (.invokevirtual 62, 3) := by decide +kernel
theorem dX5_speedOf_9 : decode cX5_speedOf 9 = .ok (.ifCond .eq 12, 3) := by decide +kernel
theorem dX5_speedOf_12 : decode cX5_speedOf 12 = .ok (.aload_n 0, 1) := by decide +kernel
theorem dX5_speedOf_13 : decode cX5_speedOf 13 = .ok (.getfield 19, 3) := by decide +kernel
theorem dX5_speedOf_16 : decode cX5_speedOf 16 = .ok (.iload_n 1, 1) := by decide +kernel
theorem dX5_speedOf_17 : decode cX5_speedOf 17 = .ok (.iaload, 1) := by decide +kernel
theorem dX5_speedOf_18 : decode cX5_speedOf 18 = .ok (.goto 4, 3) := by decide +kernel
theorem dX5_speedOf_21 : decode cX5_speedOf 21 = .ok (.iconst 4, 1) := by decide +kernel
theorem dX5_speedOf_22 : decode cX5_speedOf 22 = .ok (.ireturn, 1) := by decide +kernel
theorem dX5_beatsOfBar_0 : decode cX5_beatsOfBar 0 = .ok (.aload_n 0, 1) := by decide +kernel
theorem dX5_beatsOfBar_1 : decode cX5_beatsOfBar 1 = .ok (.invokevirtual 66, 3) := by decide +kernel
theorem dX5_beatsOfBar_4 : decode cX5_beatsOfBar 4 = .ok (.ifCond .eq 10, 3) := by decide +kernel
theorem dX5_beatsOfBar_7 : decode cX5_beatsOfBar 7 = .ok (.aload_n 0, 1) := by decide +kernel
theorem dX5_beatsOfBar_8 : decode cX5_beatsOfBar 8 = .ok (.getfield 49, 3) := by decide +kernel
theorem dX5_beatsOfBar_11 : decode cX5_beatsOfBar 11 = .ok (.goto 4, 3) := by decide +kernel
theorem dX5_beatsOfBar_14 : decode cX5_beatsOfBar 14 = .ok (.iconst 4, 1) := by decide +kernel
theorem dX5_beatsOfBar_15 : decode cX5_beatsOfBar 15 = .ok (.ireturn, 1) := by decide +kernel
theorem dX5_addMark_0 : decode cX5_addMark 0 = .ok (.aload_n 0, 1) := by decide +kernel
theorem dX5_addMark_1 : decode cX5_addMark 1 = .ok (.invokevirtual 70, 3) := by decide +kernel
theorem dX5_addMark_4 : decode cX5_addMark 4 = .ok (.ifCond .ne 23, 3) := by decide +kernel
theorem dX5_addMark_7 : decode cX5_addMark 7 = .ok (.aload_n 0, 1) := by decide +kernel
theorem dX5_addMark_8 : decode cX5_addMark 8 = .ok (.getfield 28, 3) := by decide +kernel
theorem dX5_addMark_11 : decode cX5_addMark 11 = .ok (.aload_n 0, 1) := by decide +kernel
theorem dX5_addMark_12 : decode cX5_addMark 12 = .ok (.getfield 46, 3) := by decide +kernel
theorem dX5_addMark_15 : decode cX5_addMark 15 = .ok (.iload_n 1, 1) := by decide +kernel
theorem dX5_addMark_16 : decode cX5_addMark 16 = .ok (.iastore, 1) := by decide +kernel
theorem dX5_addMark_17 : decode cX5_addMark 17 = .ok (.aload_n 0, 1) := by decide +kernel
theorem dX5_addMark_18 : decode cX5_addMark 18 = .ok (.dup, 1) := by decide +kernel
theorem dX5_addMark_19 : decode cX5_addMark 19 = .ok (.getfield 46, 3) := by decide +kernel
theorem dX5_addMark_22 : decode cX5_addMark 22 = .ok (.iconst 1, 1) := by decide +kernel
theorem dX5_addMark_23 : decode cX5_addMark 23 = .ok (.iadd, 1) := by decide +kernel
theorem dX5_addMark_24 : decode cX5_addMark 24 = .ok (.putfield 46, 3) := by decide +kernel
theorem dX5_addMark_27 : decode cX5_addMark 27 = .ok (.return_, 1) := by decide +kernel
theorem dX5_addTitle_0 : decode cX5_addTitle 0 = .ok (.aload_n 0, 1) := by decide +kernel
theorem dX5_addTitle_1 : decode cX5_addTitle 1 = .ok (.getfield 40, 3) := by decide +kernel
theorem dX5_addTitle_4 : decode cX5_addTitle 4 = .ok (.aload_n 0, 1) := by decide +kernel
theorem dX5_addTitle_5 : decode cX5_addTitle 5 = .ok (.getfield 46, 3) := by decide +kernel
theorem dX5_addTitle_8 : decode cX5_addTitle 8 = .ok (.if_icmp .ge 12, 3) := by decide +kernel
theorem dX5_addTitle_11 : decode cX5_addTitle 11 = .ok (.aload_n 0, 1) := by decide +kernel
theorem dX5_addTitle_12 : decode cX5_addTitle 12 = .ok (.getfield 40, 3) := by decide +kernel
theorem dX5_addTitle_15 : decode cX5_addTitle 15 = .ok (.bipush 40, 2) := by decide +kernel
theorem dX5_addTitle_17 : decode cX5_addTitle 17 = .ok (.if_icmp .lt 4, 3) := by decide +kernel
theorem dX5_addTitle_20 : decode cX5_addTitle 20 = .ok (.return_, 1) := by decide +kernel
theorem dX5_addTitle_21 : decode cX5_addTitle 21 = .ok (.aload_n 0, 1) := by decide +kernel
theorem dX5_addTitle_22 : decode cX5_addTitle 22 = .ok (.getfield 31, 3) := by decide +kernel
theorem dX5_addTitle_25 : decode cX5_addTitle 25 = .ok (.aload_n 0, 1) := by decide +kernel
theorem dX5_addTitle_26 : decode cX5_addTitle 26 = .ok (.getfield 40, 3) := by decide +kernel
theorem dX5_addTitle_29 : decode cX5_addTitle 29 = .ok (.aload_n 0, 1) := by decide +kernel
theorem dX5_addTitle_30 : decode cX5_addTitle 30 = .ok (.getfield 46, 3) := by decide +kernel
theorem dX5_addTitle_33 : decode cX5_addTitle 33 = .ok (.iconst 1, 1) := by decide +kernel
theorem dX5_addTitle_34 : decode cX5_addTitle 34 = .ok (.isub, 1) := by decide +kernel
theorem dX5_addTitle_35 : decode cX5_addTitle 35 = .ok (.iastore, 1) := by decide +kernel
theorem dX5_addTitle_36 : decode cX5_addTitle 36 = .ok (.aload_n 0, 1) := by decide +kernel
theorem dX5_addTitle_37 : decode cX5_addTitle 37 = .ok (.dup, 1) := by decide +kernel
theorem dX5_addTitle_38 : decode cX5_addTitle 38 = .ok (.getfield 40, 3) := by decide +kernel
theorem dX5_addTitle_41 : decode cX5_addTitle 41 = .ok (.iconst 1, 1) := by decide +kernel
theorem dX5_addTitle_42 : decode cX5_addTitle 42 = .ok (.iadd, 1) := by decide +kernel
theorem dX5_addTitle_43 : decode cX5_addTitle 43 = .ok (.putfield 40, 3) := by decide +kernel
theorem dX5_addTitle_46 : decode cX5_addTitle 46 = .ok (.iconst 0, 1) := by decide +kernel
theorem dX5_addTitle_47 : decode cX5_addTitle 47 = .ok (.istore_n 3, 1) := by decide +kernel
theorem dX5_addTitle_48 : decode cX5_addTitle 48 = .ok (.iload_n 3, 1) := by decide +kernel
theorem dX5_addTitle_49 : decode cX5_addTitle 49 = .ok (.iconst 4, 1) := by decide +kernel
theorem dX5_addTitle_50 : decode cX5_addTitle 50 = .ok (.if_icmp .ge 16, 3) := by decide +kernel
theorem dX5_addTitle_53 : decode cX5_addTitle 53 = .ok (.aload_n 0, 1) := by decide +kernel
theorem dX5_addTitle_54 : decode cX5_addTitle 54 = .ok (.iload_n 3, 1) := by decide +kernel
theorem dX5_addTitle_55 : decode cX5_addTitle 55 = .ok (.iload_n 1, 1) := by decide +kernel
theorem dX5_addTitle_56 : decode cX5_addTitle 56 = .ok (.iload_n 2, 1) := by decide +kernel
theorem dX5_addTitle_57 : decode cX5_addTitle 57 = .ok (.invokevirtual 73, 3) := by decide +kernel
theorem dX5_addTitle_60 : decode cX5_addTitle 60 = .ok (.iinc 3 1, 3) := by decide +kernel
theorem dX5_addTitle_63 : decode cX5_addTitle 63 = .ok (.goto (-15), 3) := by decide +kernel
theorem dX5_addTitle_66 : decode cX5_addTitle 66 = .ok (.return_, 1) := by decide +kernel
theorem dX5_setString_0 : decode cX5_setString 0 = .ok (.aload_n 0, 1) := by decide +kernel
theorem dX5_setString_1 : decode cX5_setString 1 = .ok (.getfield 40, 3) := by decide +kernel
theorem dX5_setString_4 : decode cX5_setString 4 = .ok (.iconst 1, 1) := by decide +kernel
theorem dX5_setString_5 : decode cX5_setString 5 = .ok (.isub, 1) := by decide +kernel
theorem dX5_setString_6 : decode cX5_setString 6 = .ok (.iload_n 1, 1) := by decide +kernel
theorem dX5_setString_7 : decode cX5_setString 7 = .ok (.invokestatic 77, 3) := by decide +kernel
theorem dX5_setString_10 : decode cX5_setString 10 = .ok (.istore 4, 2) := by decide +kernel
theorem dX5_setString_12 : decode cX5_setString 12 = .ok (.iload 4, 2) := by decide +kernel
theorem dX5_setString_14 : decode cX5_setString 14 = .ok (.iconst (-1), 1) := by decide +kernel
theorem dX5_setString_15 : decode cX5_setString 15 = .ok (.if_icmp .eq 19, 3) := by decide +kernel
theorem dX5_setString_18 : decode cX5_setString 18 = .ok (.aload_n 0, 1) := by decide +kernel
theorem dX5_setString_19 : decode cX5_setString 19 = .ok (.getfield 34, 3) := by decide +kernel
theorem dX5_setString_22 : decode cX5_setString 22 = .ok (.iload 4, 2) := by decide +kernel
theorem dX5_setString_24 : decode cX5_setString 24 = .ok (.iload_n 2, 1) := by decide +kernel
theorem dX5_setString_25 : decode cX5_setString 25 = .ok (.iastore, 1) := by decide +kernel
theorem dX5_setString_26 : decode cX5_setString 26 = .ok (.aload_n 0, 1) := by decide +kernel
theorem dX5_setString_27 : decode cX5_setString 27 = .ok (.getfield 37, 3) := by decide +kernel
theorem dX5_setString_30 : decode cX5_setString 30 = .ok (.iload 4, 2) := by decide +kernel
theorem dX5_setString_32 : decode cX5_setString 32 = .ok (.iload_n 3, 1) := by decide +kernel
theorem dX5_setString_33 : decode cX5_setString 33 = .ok (.iastore, 1) := by decide +kernel
theorem dX5_setString_34 : decode cX5_setString 34 = .ok (.return_, 1) := by decide +kernel
theorem dX5_addCut_0 : decode cX5_addCut 0 = .ok (.iload_n 1, 1) := by decide +kernel
theorem dX5_addCut_1 : decode cX5_addCut 1 = .ok (.ifCond .lt 33, 3) := by decide +kernel
theorem dX5_addCut_4 : decode cX5_addCut 4 = .ok (.iload_n 1, 1) := by decide +kernel
theorem dX5_addCut_5 : decode cX5_addCut 5 = .ok (.bipush 8, 2) := by decide +kernel
theorem dX5_addCut_7 : decode cX5_addCut 7 = .ok (.if_icmp .ge 27, 3) := by decide +kernel
theorem dX5_addCut_10 : decode cX5_addCut 10 = .ok (.aload_n 0, 1) := by decide +kernel
theorem dX5_addCut_11 : decode cX5_addCut 11 = .ok (.getfield 22, 3) := by decide +kernel
theorem dX5_addCut_14 : decode cX5_addCut 14 = .ok (.iload_n 1, 1) := by decide +kernel
theorem dX5_addCut_15 : decode cX5_addCut 15 = .ok (.iload_n 2, 1) := by decide +kernel
theorem dX5_addCut_16 : decode cX5_addCut 16 = .ok (.iastore, 1) := by decide +kernel
theorem dX5_addCut_17 : decode cX5_addCut 17 = .ok (.aload_n 0, 1) := by decide +kernel
theorem dX5_addCut_18 : decode cX5_addCut 18 = .ok (.getfield 25, 3) := by decide +kernel
theorem dX5_addCut_21 : decode cX5_addCut 21 = .ok (.iload_n 1, 1) := by decide +kernel
theorem dX5_addCut_22 : decode cX5_addCut 22 = .ok (.iload_n 3, 1) := by decide +kernel
theorem dX5_addCut_23 : decode cX5_addCut 23 = .ok (.iastore, 1) := by decide +kernel
theorem dX5_addCut_24 : decode cX5_addCut 24 = .ok (.aload_n 0, 1) := by decide +kernel
theorem dX5_addCut_25 : decode cX5_addCut 25 = .ok (.dup, 1) := by decide +kernel
theorem dX5_addCut_26 : decode cX5_addCut 26 = .ok (.getfield 43, 3) := by decide +kernel
theorem dX5_addCut_29 : decode cX5_addCut 29 = .ok (.iconst 1, 1) := by decide +kernel
theorem dX5_addCut_30 : decode cX5_addCut 30 = .ok (.iadd, 1) := by decide +kernel
theorem dX5_addCut_31 : decode cX5_addCut 31 = .ok (.putfield 43, 3) := by decide +kernel
theorem dX5_addCut_34 : decode cX5_addCut 34 = .ok (.return_, 1) := by decide +kernel
theorem dX5_latestBar_0 : decode cX5_latestBar 0 = .ok (.aload_n 0, 1) := by decide +kernel
theorem dX5_latestBar_1 : decode cX5_latestBar 1 = .ok (.aload_n 0, 1) := by decide +kernel
theorem dX5_latestBar_2 : decode cX5_latestBar 2 = .ok (.getfield 46, 3) := by decide +kernel
theorem dX5_latestBar_5 : decode cX5_latestBar 5 = .ok (.iconst 1, 1) := by decide +kernel
theorem dX5_latestBar_6 : decode cX5_latestBar 6 = .ok (.isub, 1) := by decide +kernel
theorem dX5_latestBar_7 : decode cX5_latestBar 7 = .ok (.iconst 0, 1) := by decide +kernel
theorem dX5_latestBar_8 : decode cX5_latestBar 8 = .ok (.invokevirtual 81, 3) := by decide +kernel
theorem dX5_latestBar_11 : decode cX5_latestBar 11 = .ok (.ireturn, 1) := by decide +kernel
theorem dX5_barOf_0 : decode cX5_barOf 0 = .ok (.aload_n 0, 1) := by decide +kernel
theorem dX5_barOf_1 : decode cX5_barOf 1 = .ok (.iload_n 1, 1) := by decide +kernel
theorem dX5_barOf_2 : decode cX5_barOf 2 = .ok (.invokevirtual 84, 3) := by decide +kernel
theorem dX5_barOf_5 : decode cX5_barOf 5 = .ok (.ifCond .eq 17, 3) := by decide +kernel
theorem dX5_barOf_8 : decode cX5_barOf 8 = .ok (.aload_n 0, 1) := by decide +kernel
theorem dX5_barOf_9 : decode cX5_barOf 9 = .ok (.aload_n 0, 1) := by decide +kernel
theorem dX5_barOf_10 : decode cX5_barOf 10 = .ok (.getfield 31, 3) := by decide +kernel
theorem dX5_barOf_13 : decode cX5_barOf 13 = .ok (.iload_n 1, 1) := by decide +kernel
theorem dX5_barOf_14 : decode cX5_barOf 14 = .ok (.iaload, 1) := by decide +kernel
theorem dX5_barOf_15 : decode cX5_barOf 15 = .ok (.iconst 0, 1) := by decide +kernel
theorem dX5_barOf_16 : decode cX5_barOf 16 = .ok (.invokevirtual 81, 3) := by decide +kernel
theorem dX5_barOf_19 : decode cX5_barOf 19 = .ok (.goto 4, 3) := by decide +kernel
theorem dX5_barOf_22 : decode cX5_barOf 22 = .ok (.iconst 0, 1) := by decide +kernel
theorem dX5_barOf_23 : decode cX5_barOf 23 = .ok (.ireturn, 1) := by decide +kernel
theorem dX5_endOf_0 : decode cX5_endOf 0 = .ok (.aload_n 0, 1) := by decide +kernel
theorem dX5_endOf_1 : decode cX5_endOf 1 = .ok (.iload_n 1, 1) := by decide +kernel
theorem dX5_endOf_2 : decode cX5_endOf 2 = .ok (.invokevirtual 84, 3) := by decide +kernel
theorem dX5_endOf_5 : decode cX5_endOf 5 = .ok (.ifCond .eq 21, 3) := by decide +kernel
theorem dX5_endOf_8 : decode cX5_endOf 8 = .ok (.aload_n 0, 1) := by decide +kernel
theorem dX5_endOf_9 : decode cX5_endOf 9 = .ok (.aload_n 0, 1) := by decide +kernel
theorem dX5_endOf_10 : decode cX5_endOf 10 = .ok (.getfield 31, 3) := by decide +kernel
theorem dX5_endOf_13 : decode cX5_endOf 13 = .ok (.iload_n 1, 1) := by decide +kernel
theorem dX5_endOf_14 : decode cX5_endOf 14 = .ok (.iaload, 1) := by decide +kernel
theorem dX5_endOf_15 : decode cX5_endOf 15 = .ok (.iconst 1, 1) := by decide +kernel
theorem dX5_endOf_16 : decode cX5_endOf 16 = .ok (.iadd, 1) := by decide +kernel
theorem dX5_endOf_17 : decode cX5_endOf 17 = .ok (.sipush 1000, 3) := by decide +kernel
theorem dX5_endOf_20 : decode cX5_endOf 20 = .ok (.invokevirtual 81, 3) := by decide +kernel
theorem dX5_endOf_23 : decode cX5_endOf 23 = .ok (.goto 4, 3) := by decide +kernel
theorem dX5_endOf_26 : decode cX5_endOf 26 = .ok (.iconst 0, 1) := by decide +kernel
theorem dX5_endOf_27 : decode cX5_endOf 27 = .ok (.ireturn, 1) := by decide +kernel
theorem dX5_barOfMark_0 : decode cX5_barOfMark 0 = .ok (.iload_n 1, 1) := by decide +kernel
theorem dX5_barOfMark_1 : decode cX5_barOfMark 1 = .ok (.ifCond .lt 26, 3) := by decide +kernel
theorem dX5_barOfMark_4 : decode cX5_barOfMark 4 = .ok (.iload_n 1, 1) := by decide +kernel
theorem dX5_barOfMark_5 : decode cX5_barOfMark 5 = .ok (.aload_n 0, 1) := by decide +kernel
theorem dX5_barOfMark_6 : decode cX5_barOfMark 6 = .ok (.getfield 46, 3) := by decide +kernel
theorem dX5_barOfMark_9 : decode cX5_barOfMark 9 = .ok (.if_icmp .ge 18, 3) := by decide +kernel
theorem dX5_barOfMark_12 : decode cX5_barOfMark 12 = .ok (.iload_n 1, 1) := by decide +kernel
theorem dX5_barOfMark_13 : decode cX5_barOfMark 13 = .ok (.bipush 40, 2) := by decide +kernel
theorem dX5_barOfMark_15 : decode cX5_barOfMark 15 = .ok (.if_icmp .ge 12, 3) := by decide +kernel
theorem dX5_barOfMark_18 : decode cX5_barOfMark 18 = .ok (.aload_n 0, 1) := by decide +kernel
theorem dX5_barOfMark_19 : decode cX5_barOfMark 19 = .ok (.getfield 28, 3) := by decide +kernel
theorem dX5_barOfMark_22 : decode cX5_barOfMark 22 = .ok (.iload_n 1, 1) := by decide +kernel
theorem dX5_barOfMark_23 : decode cX5_barOfMark 23 = .ok (.iaload, 1) := by decide +kernel
theorem dX5_barOfMark_24 : decode cX5_barOfMark 24 = .ok (.goto 4, 3) := by decide +kernel
theorem dX5_barOfMark_27 : decode cX5_barOfMark 27 = .ok (.iload_n 2, 1) := by decide +kernel
theorem dX5_barOfMark_28 : decode cX5_barOfMark 28 = .ok (.ireturn, 1) := by decide +kernel
theorem dX5_titleAt_0 : decode cX5_titleAt 0 = .ok (.iconst 0, 1) := by decide +kernel
theorem dX5_titleAt_1 : decode cX5_titleAt 1 = .ok (.istore_n 2, 1) := by decide +kernel
theorem dX5_titleAt_2 : decode cX5_titleAt 2 = .ok (.iload_n 2, 1) := by decide +kernel
theorem dX5_titleAt_3 : decode cX5_titleAt 3 = .ok (.aload_n 0, 1) := by decide +kernel
theorem dX5_titleAt_4 : decode cX5_titleAt 4 = .ok (.getfield 40, 3) := by decide +kernel
theorem dX5_titleAt_7 : decode cX5_titleAt 7 = .ok (.if_icmp .ge 29, 3) := by decide +kernel
theorem dX5_titleAt_10 : decode cX5_titleAt 10 = .ok (.aload_n 0, 1) := by decide +kernel
theorem dX5_titleAt_11 : decode cX5_titleAt 11 = .ok (.iload_n 2, 1) := by decide +kernel
theorem dX5_titleAt_12 : decode cX5_titleAt 12 = .ok (.invokevirtual 87, 3) := by decide +kernel
theorem dX5_titleAt_15 : decode cX5_titleAt 15 = .ok (.iload_n 1, 1) := by decide +kernel
theorem dX5_titleAt_16 : decode cX5_titleAt 16 = .ok (.if_icmp .gt 14, 3) := by decide +kernel
theorem dX5_titleAt_19 : decode cX5_titleAt 19 = .ok (.iload_n 1, 1) := by decide +kernel
theorem dX5_titleAt_20 : decode cX5_titleAt 20 = .ok (.aload_n 0, 1) := by decide +kernel
theorem dX5_titleAt_21 : decode cX5_titleAt 21 = .ok (.iload_n 2, 1) := by decide +kernel
theorem dX5_titleAt_22 : decode cX5_titleAt 22 = .ok (.invokevirtual 91, 3) := by decide +kernel
theorem dX5_titleAt_25 : decode cX5_titleAt 25 = .ok (.if_icmp .ge 5, 3) := by decide +kernel
theorem dX5_titleAt_28 : decode cX5_titleAt 28 = .ok (.iload_n 2, 1) := by decide +kernel
theorem dX5_titleAt_29 : decode cX5_titleAt 29 = .ok (.ireturn, 1) := by decide +kernel
theorem dX5_titleAt_30 : decode cX5_titleAt 30 = .ok (.iinc 2 1, 3) := by decide +kernel
theorem dX5_titleAt_33 : decode cX5_titleAt 33 = .ok (.goto (-31), 3) := by decide +kernel
theorem dX5_titleAt_36 : decode cX5_titleAt 36 = .ok (.iconst (-1), 1) := by decide +kernel
theorem dX5_titleAt_37 : decode cX5_titleAt 37 = .ok (.ireturn, 1) := by decide +kernel
theorem dX5_stringFrom_0 : decode cX5_stringFrom 0 = .ok (.iload_n 1, 1) := by decide +kernel
theorem dX5_stringFrom_1 : decode cX5_stringFrom 1 = .ok (.iload_n 2, 1) := by decide +kernel
theorem dX5_stringFrom_2 : decode cX5_stringFrom 2 = .ok (.invokestatic 77, 3) := by decide +kernel
theorem dX5_stringFrom_5 : decode cX5_stringFrom 5 = .ok (.istore_n 3, 1) := by decide +kernel
theorem dX5_stringFrom_6 : decode cX5_stringFrom 6 = .ok (.iload_n 3, 1) := by decide +kernel
theorem dX5_stringFrom_7 : decode cX5_stringFrom 7 = .ok (.iconst (-1), 1) := by decide +kernel
theorem dX5_stringFrom_8 : decode cX5_stringFrom 8 = .ok (.if_icmp .ne 7, 3) := by decide +kernel
theorem dX5_stringFrom_11 : decode cX5_stringFrom 11 = .ok (.iconst 0, 1) := by decide +kernel
theorem dX5_stringFrom_12 : decode cX5_stringFrom 12 = .ok (.goto 9, 3) := by decide +kernel
theorem dX5_stringFrom_15 : decode cX5_stringFrom 15 = .ok (.aload_n 0, 1) := by decide +kernel
theorem dX5_stringFrom_16 : decode cX5_stringFrom 16 = .ok (.getfield 34, 3) := by decide +kernel
theorem dX5_stringFrom_19 : decode cX5_stringFrom 19 = .ok (.iload_n 3, 1) := by decide +kernel
theorem dX5_stringFrom_20 : decode cX5_stringFrom 20 = .ok (.iaload, 1) := by decide +kernel
theorem dX5_stringFrom_21 : decode cX5_stringFrom 21 = .ok (.ireturn, 1) := by decide +kernel
theorem dX5_stringLength_0 : decode cX5_stringLength 0 = .ok (.iload_n 1, 1) := by decide +kernel
theorem dX5_stringLength_1 : decode cX5_stringLength 1 = .ok (.iload_n 2, 1) := by decide +kernel
theorem dX5_stringLength_2 : decode cX5_stringLength 2 = .ok (.invokestatic 77, 3) := by decide +kernel
theorem dX5_stringLength_5 : decode cX5_stringLength 5 = .ok (.istore_n 3, 1) := by decide +kernel
theorem dX5_stringLength_6 : decode cX5_stringLength 6 = .ok (.iload_n 3, 1) := by decide +kernel
theorem dX5_stringLength_7 : decode cX5_stringLength 7 = .ok (.iconst (-1), 1) := by decide +kernel
theorem dX5_stringLength_8 : decode cX5_stringLength 8 = .ok (.if_icmp .ne 7, 3) := by decide +kernel
theorem dX5_stringLength_11 : decode cX5_stringLength 11 = .ok (.iconst 0, 1) := by decide +kernel
theorem dX5_stringLength_12 : decode cX5_stringLength 12 = .ok (.goto 9, 3) := by decide +kernel
theorem dX5_stringLength_15 : decode cX5_stringLength 15 = .ok (.aload_n 0, 1) := by decide +kernel
theorem dX5_stringLength_16 : decode cX5_stringLength 16 = .ok (.getfield 37, 3) := by decide +kernel
theorem dX5_stringLength_19 : decode cX5_stringLength 19 = .ok (.iload_n 3, 1) := by decide +kernel
theorem dX5_stringLength_20 : decode cX5_stringLength 20 = .ok (.iaload, 1) := by decide +kernel
theorem dX5_stringLength_21 : decode cX5_stringLength 21 = .ok (.ireturn, 1) := by decide +kernel
theorem dX5_slotOf_0 : decode cX5_slotOf 0 = .ok (.iload_n 0, 1) := by decide +kernel
theorem dX5_slotOf_1 : decode cX5_slotOf 1 = .ok (.ifCond .lt 18, 3) := by decide +kernel
theorem dX5_slotOf_4 : decode cX5_slotOf 4 = .ok (.iload_n 0, 1) := by decide +kernel
theorem dX5_slotOf_5 : decode cX5_slotOf 5 = .ok (.bipush 40, 2) := by decide +kernel
theorem dX5_slotOf_7 : decode cX5_slotOf 7 = .ok (.if_icmp .ge 12, 3) := by decide +kernel
theorem dX5_slotOf_10 : decode cX5_slotOf 10 = .ok (.iload_n 1, 1) := by decide +kernel
theorem dX5_slotOf_11 : decode cX5_slotOf 11 = .ok (.ifCond .lt 8, 3) := by decide +kernel
theorem dX5_slotOf_14 : decode cX5_slotOf 14 = .ok (.iload_n 1, 1) := by decide +kernel
theorem dX5_slotOf_15 : decode cX5_slotOf 15 = .ok (.iconst 4, 1) := by decide +kernel
theorem dX5_slotOf_16 : decode cX5_slotOf 16 = .ok (.if_icmp .lt 5, 3) := by decide +kernel
