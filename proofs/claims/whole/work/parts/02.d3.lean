theorem dX10_feed_9 : decode cX10_feed 9 = .ok (.bipush 20, 2) := by decide +kernel
theorem dX10_feed_11 : decode cX10_feed 11 = .ok (.iadd, 1) := by decide +kernel
theorem dX10_feed_12 : decode cX10_feed 12 = .ok (.sipush 1500, 3) := by decide +kernel
theorem dX10_feed_15 : decode cX10_feed 15 = .ok (.if_icmp .le 5, 3) := by decide +kernel
theorem dX10_feed_18 : decode cX10_feed 18 = .ok (.iconst (-1), 1) := by decide +kernel
theorem dX10_feed_19 : decode cX10_feed 19 = .ok (.ireturn, 1) := by decide +kernel
theorem dX10_feed_20 : decode cX10_feed 20 = .ok (.iconst 0, 1) := by decide +kernel
theorem dX10_feed_21 : decode cX10_feed 21 = .ok (.istore 6, 2) := by decide +kernel
theorem dX10_feed_23 : decode cX10_feed 23 = .ok (.iload 6, 2) := by decide +kernel
theorem dX10_feed_25 : decode cX10_feed 25 = .ok (.bipush 20, 2) := by decide +kernel
theorem dX10_feed_27 : decode cX10_feed 27 = .ok (.if_icmp .ge 86, 3) := by decide +kernel
theorem dX10_feed_30 : decode cX10_feed 30 = .ok (.iload 6, 2) := by decide +kernel
theorem dX10_feed_32 : decode cX10_feed 32 = .ok (.iconst 4, 1) := by decide +kernel
theorem dX10_feed_33 : decode cX10_feed 33 = .ok (.if_icmp .ge 7, 3) := by decide +kernel
theorem dX10_feed_36 : decode cX10_feed 36 = .ok (.iload_n 1, 1) := by decide +kernel
theorem dX10_feed_37 : decode cX10_feed 37 = .ok (.goto 39, 3) := by decide +kernel
theorem dX10_feed_40 : decode cX10_feed 40 = .ok (.iload 6, 2) := by decide +kernel
theorem dX10_feed_42 : decode cX10_feed 42 = .ok (.bipush 8, 2) := by decide +kernel
theorem dX10_feed_44 : decode cX10_feed 44 = .ok (.if_icmp .ge 7, 3) := by decide +kernel
theorem dX10_feed_47 : decode cX10_feed 47 = .ok (.iload_n 2, 1) := by decide +kernel
theorem dX10_feed_48 : decode cX10_feed 48 = .ok (.goto 28, 3) := by decide +kernel
theorem dX10_feed_51 : decode cX10_feed 51 = .ok (.iload 6, 2) := by decide +kernel
theorem dX10_feed_53 : decode cX10_feed 53 = .ok (.bipush 12, 2) := by decide +kernel
theorem dX10_feed_55 : decode cX10_feed 55 = .ok (.if_icmp .ge 7, 3) := by decide +kernel
theorem dX10_feed_58 : decode cX10_feed 58 = .ok (.iload_n 3, 1) := by decide +kernel
theorem dX10_feed_59 : decode cX10_feed 59 = .ok (.goto 17, 3) := by decide +kernel
theorem dX10_feed_62 : decode cX10_feed 62 = .ok (.iload 6, 2) := by decide +kernel
theorem dX10_feed_64 : decode cX10_feed 64 = .ok (.bipush 16, 2) := by decide +kernel
theorem dX10_feed_66 : decode cX10_feed 66 = .ok (.if_icmp .ge 8, 3) := by decide +kernel
theorem dX10_feed_69 : decode cX10_feed 69 = .ok (.iload 4, 2) := by decide +kernel
theorem dX10_feed_71 : decode cX10_feed 71 = .ok (.goto 5, 3) := by decide +kernel
theorem dX10_feed_74 : decode cX10_feed 74 = .ok (.iload 5, 2) := by decide +kernel
theorem dX10_feed_76 : decode cX10_feed 76 = .ok (.istore 7, 2) := by decide +kernel
theorem dX10_feed_78 : decode cX10_feed 78 = .ok (.aload_n 0, 1) := by decide +kernel
theorem dX10_feed_79 : decode cX10_feed 79 = .ok (.getfield 7, 3) := by decide +kernel
theorem dX10_feed_82 : decode cX10_feed 82 = .ok (.aload_n 0, 1) := by decide +kernel
theorem dX10_feed_83 : decode cX10_feed 83 = .ok (.getfield 116, 3) := by decide +kernel
theorem dX10_feed_86 : decode cX10_feed 86 = .ok (.iload 6, 2) := by decide +kernel
theorem dX10_feed_88 : decode cX10_feed 88 = .ok (.iadd, 1) := by decide +kernel
theorem dX10_feed_89 : decode cX10_feed 89 = .ok (.iload 7, 2) := by decide +kernel
theorem dX10_feed_91 : decode cX10_feed 91 = .ok (.bipush 24, 2) := by decide +kernel
theorem dX10_feed_93 : decode cX10_feed 93 = .ok (.bipush 8, 2) := by decide +kernel
theorem dX10_feed_95 : decode cX10_feed 95 = .ok (.iload 6, 2) := by decide +kernel
theorem dX10_feed_97 : decode cX10_feed 97 = .ok (.iconst 4, 1) := by decide +kernel
theorem dX10_feed_98 : decode cX10_feed 98 = .ok (.irem, 1) := by decide +kernel
theorem dX10_feed_99 : decode cX10_feed 99 = .ok (.imul, 1) := by decide +kernel
theorem dX10_feed_100 : decode cX10_feed 100 = .ok (.isub, 1) := by decide +kernel
theorem dX10_feed_101 : decode cX10_feed 101 = .ok (.ishr, 1) := by decide +kernel
theorem dX10_feed_102 : decode cX10_feed 102 = .ok (.sipush 255, 3) := by decide +kernel
theorem dX10_feed_105 : decode cX10_feed 105 = .ok (.iand, 1) := by decide +kernel
theorem dX10_feed_106 : decode cX10_feed 106 = .ok (.iastore, 1) := by decide +kernel
theorem dX10_feed_107 : decode cX10_feed 107 = .ok (.iinc 6 1, 3) := by decide +kernel
theorem dX10_feed_110 : decode cX10_feed 110 = .ok (.goto (-87), 3) := by decide +kernel
theorem dX10_feed_113 : decode cX10_feed 113 = .ok (.aload_n 0, 1) := by decide +kernel
theorem dX10_feed_114 : decode cX10_feed 114 = .ok (.dup, 1) := by decide +kernel
theorem dX10_feed_115 : decode cX10_feed 115 = .ok (.getfield 116, 3) := by decide +kernel
theorem dX10_feed_118 : decode cX10_feed 118 = .ok (.bipush 20, 2) := by decide +kernel
theorem dX10_feed_120 : decode cX10_feed 120 = .ok (.iadd, 1) := by decide +kernel
theorem dX10_feed_121 : decode cX10_feed 121 = .ok (.putfield 116, 3) := by decide +kernel
theorem dX10_feed_124 : decode cX10_feed 124 = .ok (.aload_n 0, 1) := by decide +kernel
theorem dX10_feed_125 : decode cX10_feed 125 = .ok (.getfield 116, 3) := by decide +kernel
theorem dX10_feed_128 : decode cX10_feed 128 = .ok (.ireturn, 1) := by decide +kernel
theorem dX10_cutWords_0 : decode cX10_cutWords 0 = .ok (.aload_n 0, 1) := by decide +kernel
theorem dX10_cutWords_1 : decode cX10_cutWords 1 = .ok (.iconst 0, 1) := by decide +kernel
theorem dX10_cutWords_2 : decode cX10_cutWords 2 = .ok (.putfield 119, 3) := by decide +kernel
theorem dX10_cutWords_5 : decode cX10_cutWords 5 = .ok (.iconst 0, 1) := by decide +kernel
theorem dX10_cutWords_6 : decode cX10_cutWords 6 = .ok (.istore_n 2, 1) := by decide +kernel
theorem dX10_cutWords_7 : decode cX10_cutWords 7 = .ok (.iload_n 2, 1) := by decide +kernel
theorem dX10_cutWords_8 : decode cX10_cutWords 8 = .ok (.iload_n 1, 1) := by decide +kernel
theorem dX10_cutWords_9 : decode cX10_cutWords 9 = .ok (.if_icmp .ge 94, 3) := by decide +kernel
theorem dX10_cutWords_12 : decode cX10_cutWords 12 = .ok (.aload_n 0, 1) := by decide +kernel
theorem dX10_cutWords_13 : decode cX10_cutWords 13 = .ok (.getfield 68, 3) := by decide +kernel
theorem dX10_cutWords_16 : decode cX10_cutWords 16 = .ok (.iload_n 2, 1) := by decide +kernel
theorem dX10_cutWords_17 : decode cX10_cutWords 17 = .ok (.iaload, 1) := by decide +kernel
theorem dX10_cutWords_18 : decode cX10_cutWords 18 = .ok (.bipush 32, 2) := by decide +kernel
theorem dX10_cutWords_20 : decode cX10_cutWords 20 = .ok (.if_icmp .eq 77, 3) := by decide +kernel
theorem dX10_cutWords_23 : decode cX10_cutWords 23 = .ok (.iload_n 2, 1) := by decide +kernel
theorem dX10_cutWords_24 : decode cX10_cutWords 24 = .ok (.ifCond .le 19, 3) := by decide +kernel
theorem dX10_cutWords_27 : decode cX10_cutWords 27 = .ok (.aload_n 0, 1) := by decide +kernel
theorem dX10_cutWords_28 : decode cX10_cutWords 28 = .ok (.getfield 68, 3) := by decide +kernel
theorem dX10_cutWords_31 : decode cX10_cutWords 31 = .ok (.iload_n 2, 1) := by decide +kernel
theorem dX10_cutWords_32 : decode cX10_cutWords 32 = .ok (.iconst 1, 1) := by decide +kernel
theorem dX10_cutWords_33 : decode cX10_cutWords 33 = .ok (.isub, 1) := by decide +kernel
theorem dX10_cutWords_34 : decode cX10_cutWords 34 = .ok (.iaload, 1) := by decide +kernel
theorem dX10_cutWords_35 : decode cX10_cutWords 35 = .ok (.bipush 32, 2) := by decide +kernel
theorem dX10_cutWords_37 : decode cX10_cutWords 37 = .ok (.if_icmp .eq 6, 3) := by decide +kernel
theorem dX10_cutWords_40 : decode cX10_cutWords 40 = .ok (.goto 57, 3) := by decide +kernel
theorem dX10_cutWords_43 : decode cX10_cutWords 43 = .ok (.aload_n 0, 1) := by decide +kernel
theorem dX10_cutWords_44 : decode cX10_cutWords 44 = .ok (.getfield 71, 3) := by decide +kernel
theorem dX10_cutWords_47 : decode cX10_cutWords 47 = .ok (.aload_n 0, 1) := by decide +kernel
theorem dX10_cutWords_48 : decode cX10_cutWords 48 = .ok (.getfield 119, 3) := by decide +kernel
theorem dX10_cutWords_51 : decode cX10_cutWords 51 = .ok (.iload_n 2, 1) := by decide +kernel
theorem dX10_cutWords_52 : decode cX10_cutWords 52 = .ok (.iastore, 1) := by decide +kernel
theorem dX10_cutWords_53 : decode cX10_cutWords 53 = .ok (.iload_n 2, 1) := by decide +kernel
theorem dX10_cutWords_54 : decode cX10_cutWords 54 = .ok (.istore_n 3, 1) := by decide +kernel
theorem dX10_cutWords_55 : decode cX10_cutWords 55 = .ok (.iload_n 3, 1) := by decide +kernel
theorem dX10_cutWords_56 : decode cX10_cutWords 56 = .ok (.iload_n 1, 1) := by decide +kernel
theorem dX10_cutWords_57 : decode cX10_cutWords 57 = .ok (.if_icmp .ge 20, 3) := by decide +kernel
theorem dX10_cutWords_60 : decode cX10_cutWords 60 = .ok (.aload_n 0, 1) := by decide +kernel
theorem dX10_cutWords_61 : decode cX10_cutWords 61 = .ok (.getfield 68, 3) := by decide +kernel
theorem dX10_cutWords_64 : decode cX10_cutWords 64 = .ok (.iload_n 3, 1) := by decide +kernel
theorem dX10_cutWords_65 : decode cX10_cutWords 65 = .ok (.iaload, 1) := by decide +kernel
theorem dX10_cutWords_66 : decode cX10_cutWords 66 = .ok (.bipush 32, 2) := by decide +kernel
theorem dX10_cutWords_68 : decode cX10_cutWords 68 = .ok (.if_icmp .eq 9, 3) := by decide +kernel
theorem dX10_cutWords_71 : decode cX10_cutWords 71 = .ok (.iinc 3 1, 3) := by decide +kernel
theorem dX10_cutWords_74 : decode cX10_cutWords 74 = .ok (.goto (-19), 3) := by decide +kernel
theorem dX10_cutWords_77 : decode cX10_cutWords 77 = .ok (.aload_n 0, 1) := by decide +kernel
theorem dX10_cutWords_78 : decode cX10_cutWords 78 = .ok (.getfield 74, 3) := by decide +kernel
theorem dX10_cutWords_81 : decode cX10_cutWords 81 = .ok (.aload_n 0, 1) := by decide +kernel
theorem dX10_cutWords_82 : decode cX10_cutWords 82 = .ok (.getfield 119, 3) := by decide +kernel
theorem dX10_cutWords_85 : decode cX10_cutWords 85 = .ok (.iload_n 3, 1) := by decide +kernel
theorem dX10_cutWords_86 : decode cX10_cutWords 86 = .ok (.iastore, 1) := by decide +kernel
theorem dX10_cutWords_87 : decode cX10_cutWords 87 = .ok (.aload_n 0, 1) := by decide +kernel
theorem dX10_cutWords_88 : decode cX10_cutWords 88 = .ok (.dup, 1) := by decide +kernel
theorem dX10_cutWords_89 : decode cX10_cutWords 89 = .ok (.getfield 119, 3) := by decide +kernel
theorem dX10_cutWords_92 : decode cX10_cutWords 92 = .ok (.iconst 1, 1) := by decide +kernel
theorem dX10_cutWords_93 : decode cX10_cutWords 93 = .ok (.iadd, 1) := by decide +kernel
theorem dX10_cutWords_94 : decode cX10_cutWords 94 = .ok (.putfield 119, 3) := by decide +kernel
theorem dX10_cutWords_97 : decode cX10_cutWords 97 = .ok (.iinc 2 1, 3) := by decide +kernel
theorem dX10_cutWords_100 : decode cX10_cutWords 100 = .ok (.goto (-93), 3) := by decide +kernel
theorem dX10_cutWords_103 : decode cX10_cutWords 103 = .ok (.return_, 1) := by decide +kernel
theorem dX10_rowLength_0 : decode cX10_rowLength 0 = .ok (.aload_n 0, 1) := by decide +kernel
theorem dX10_rowLength_1 : decode cX10_rowLength 1 = .ok (.getfield 74, 3) := by decide +kernel
theorem dX10_rowLength_4 : decode cX10_rowLength 4 = .ok (.iload_n 1, 1) := by decide +kernel
theorem dX10_rowLength_5 : decode cX10_rowLength 5 = .ok (.iload_n 2, 1) := by decide +kernel
theorem dX10_rowLength_6 : decode cX10_rowLength 6 = .ok (.iadd, 1) := by decide +kernel
theorem dX10_rowLength_7 : decode cX10_rowLength 7 = .ok (.iconst 1, 1) := by decide +kernel
theorem dX10_rowLength_8 : decode cX10_rowLength 8 = .ok (.isub, 1) := by decide +kernel
theorem dX10_rowLength_9 : decode cX10_rowLength 9 = .ok (.iaload, 1) := by decide +kernel
theorem dX10_rowLength_10 : decode cX10_rowLength 10 = .ok (.aload_n 0, 1) := by decide +kernel
theorem dX10_rowLength_11 : decode cX10_rowLength 11 = .ok (.getfield 71, 3) := by decide +kernel
theorem dX10_rowLength_14 : decode cX10_rowLength 14 = .ok (.iload_n 1, 1) := by decide +kernel
theorem dX10_rowLength_15 : decode cX10_rowLength 15 = .ok (.iaload, 1) := by decide +kernel
theorem dX10_rowLength_16 : decode cX10_rowLength 16 = .ok (.isub, 1) := by decide +kernel
theorem dX10_rowLength_17 : decode cX10_rowLength 17 = .ok (.ireturn, 1) := by decide +kernel
theorem dX10_fits_0 : decode cX10_fits 0 = .ok (.iconst 0, 1) := by decide +kernel
theorem dX10_fits_1 : decode cX10_fits 1 = .ok (.istore_n 3, 1) := by decide +kernel
theorem dX10_fits_2 : decode cX10_fits 2 = .ok (.iload_n 1, 1) := by decide +kernel
theorem dX10_fits_3 : decode cX10_fits 3 = .ok (.iload_n 3, 1) := by decide +kernel
theorem dX10_fits_4 : decode cX10_fits 4 = .ok (.iadd, 1) := by decide +kernel
theorem dX10_fits_5 : decode cX10_fits 5 = .ok (.aload_n 0, 1) := by decide +kernel
theorem dX10_fits_6 : decode cX10_fits 6 = .ok (.getfield 119, 3) := by decide +kernel
theorem dX10_fits_9 : decode cX10_fits 9 = .ok (.if_icmp .ge 21, 3) := by decide +kernel
theorem dX10_fits_12 : decode cX10_fits 12 = .ok (.aload_n 0, 1) := by decide +kernel
theorem dX10_fits_13 : decode cX10_fits 13 = .ok (.iload_n 1, 1) := by decide +kernel
theorem dX10_fits_14 : decode cX10_fits 14 = .ok (.iload_n 3, 1) := by decide +kernel
theorem dX10_fits_15 : decode cX10_fits 15 = .ok (.iconst 1, 1) := by decide +kernel
theorem dX10_fits_16 : decode cX10_fits 16 = .ok (.iadd, 1) := by decide +kernel
theorem dX10_fits_17 : decode cX10_fits 17 = .ok (.invokevirtual 122, 3) := by decide +kernel
theorem dX10_fits_20 : decode cX10_fits 20 = .ok (.iload_n 2, 1) := by decide +kernel
theorem dX10_fits_21 : decode cX10_fits 21 = .ok (.if_icmp .gt 9, 3) := by decide +kernel
theorem dX10_fits_24 : decode cX10_fits 24 = .ok (.iinc 3 1, 3) := by decide +kernel
theorem dX10_fits_27 : decode cX10_fits 27 = .ok (.goto (-25), 3) := by decide +kernel
theorem dX10_fits_30 : decode cX10_fits 30 = .ok (.iload_n 3, 1) := by decide +kernel
theorem dX10_fits_31 : decode cX10_fits 31 = .ok (.ireturn, 1) := by decide +kernel
theorem dX10_lay_0 : decode cX10_lay 0 = .ok (.aload_n 0, 1) := by decide +kernel
theorem dX10_lay_1 : decode cX10_lay 1 = .ok (.iload_n 1, 1) := by decide +kernel
theorem dX10_lay_2 : decode cX10_lay 2 = .ok (.invokevirtual 126, 3) := by decide +kernel
theorem dX10_lay_5 : decode cX10_lay 5 = .ok (.iconst 0, 1) := by decide +kernel
theorem dX10_lay_6 : decode cX10_lay 6 = .ok (.istore_n 3, 1) := by decide +kernel
theorem dX10_lay_7 : decode cX10_lay 7 = .ok (.iconst 0, 1) := by decide +kernel
theorem dX10_lay_8 : decode cX10_lay 8 = .ok (.istore 4, 2) := by decide +kernel
theorem dX10_lay_10 : decode cX10_lay 10 = .ok (.iload 4, 2) := by decide +kernel
theorem dX10_lay_12 : decode cX10_lay 12 = .ok (.aload_n 0, 1) := by decide +kernel
theorem dX10_lay_13 : decode cX10_lay 13 = .ok (.getfield 119, 3) := by decide +kernel
theorem dX10_lay_16 : decode cX10_lay 16 = .ok (.if_icmp .ge 38, 3) := by decide +kernel
theorem dX10_lay_19 : decode cX10_lay 19 = .ok (.iload_n 3, 1) := by decide +kernel
theorem dX10_lay_20 : decode cX10_lay 20 = .ok (.bipush 13, 2) := by decide +kernel
theorem dX10_lay_22 : decode cX10_lay 22 = .ok (.if_icmp .ge 32, 3) := by decide +kernel
theorem dX10_lay_25 : decode cX10_lay 25 = .ok (.aload_n 0, 1) := by decide +kernel
theorem dX10_lay_26 : decode cX10_lay 26 = .ok (.iload 4, 2) := by decide +kernel
theorem dX10_lay_28 : decode cX10_lay 28 = .ok (.iload_n 2, 1) := by decide +kernel
theorem dX10_lay_29 : decode cX10_lay 29 = .ok (.invokevirtual 130, 3) := by decide +kernel
theorem dX10_lay_32 : decode cX10_lay 32 = .ok (.istore 5, 2) := by decide +kernel
theorem dX10_lay_34 : decode cX10_lay 34 = .ok (.iload 5, 2) := by decide +kernel
theorem dX10_lay_36 : decode cX10_lay 36 = .ok (.ifCond .ne 5, 3) := by decide +kernel
theorem dX10_lay_39 : decode cX10_lay 39 = .ok (.iconst 0, 1) := by decide +kernel
theorem dX10_lay_40 : decode cX10_lay 40 = .ok (.ireturn, 1) := by decide +kernel
theorem dX10_lay_41 : decode cX10_lay 41 = .ok (.iload 4, 2) := by decide +kernel
theorem dX10_lay_43 : decode cX10_lay 43 = .ok (.iload 5, 2) := by decide +kernel
theorem dX10_lay_45 : decode cX10_lay 45 = .ok (.iadd, 1) := by decide +kernel
theorem dX10_lay_46 : decode cX10_lay 46 = .ok (.istore 4, 2) := by decide +kernel
theorem dX10_lay_48 : decode cX10_lay 48 = .ok (.iinc 3 1, 3) := by decide +kernel
theorem dX10_lay_51 : decode cX10_lay 51 = .ok (.goto (-41), 3) := by decide +kernel
theorem dX10_lay_54 : decode cX10_lay 54 = .ok (.iload 4, 2) := by decide +kernel
theorem dX10_lay_56 : decode cX10_lay 56 = .ok (.istore 5, 2) := by decide +kernel
theorem dX10_lay_58 : decode cX10_lay 58 = .ok (.iload 5, 2) := by decide +kernel
theorem dX10_lay_60 : decode cX10_lay 60 = .ok (.aload_n 0, 1) := by decide +kernel
theorem dX10_lay_61 : decode cX10_lay 61 = .ok (.getfield 119, 3) := by decide +kernel
theorem dX10_lay_64 : decode cX10_lay 64 = .ok (.if_icmp .ge 22, 3) := by decide +kernel
theorem dX10_lay_67 : decode cX10_lay 67 = .ok (.aload_n 0, 1) := by decide +kernel
theorem dX10_lay_68 : decode cX10_lay 68 = .ok (.iload 5, 2) := by decide +kernel
theorem dX10_lay_70 : decode cX10_lay 70 = .ok (.iconst 1, 1) := by decide +kernel
theorem dX10_lay_71 : decode cX10_lay 71 = .ok (.invokevirtual 122, 3) := by decide +kernel
theorem dX10_lay_74 : decode cX10_lay 74 = .ok (.iload_n 2, 1) := by decide +kernel
theorem dX10_lay_75 : decode cX10_lay 75 = .ok (.if_icmp .le 5, 3) := by decide +kernel
theorem dX10_lay_78 : decode cX10_lay 78 = .ok (.iconst 0, 1) := by decide +kernel
theorem dX10_lay_79 : decode cX10_lay 79 = .ok (.ireturn, 1) := by decide +kernel
theorem dX10_lay_80 : decode cX10_lay 80 = .ok (.iinc 5 1, 3) := by decide +kernel
theorem dX10_lay_83 : decode cX10_lay 83 = .ok (.goto (-25), 3) := by decide +kernel
theorem dX10_lay_86 : decode cX10_lay 86 = .ok (.iload_n 3, 1) := by decide +kernel
theorem dX10_lay_87 : decode cX10_lay 87 = .ok (.bipush 12, 2) := by decide +kernel
theorem dX10_lay_89 : decode cX10_lay 89 = .ok (.if_icmp .le 5, 3) := by decide +kernel
theorem dX10_lay_92 : decode cX10_lay 92 = .ok (.iconst 0, 1) := by decide +kernel
theorem dX10_lay_93 : decode cX10_lay 93 = .ok (.ireturn, 1) := by decide +kernel
theorem dX10_lay_94 : decode cX10_lay 94 = .ok (.aload_n 0, 1) := by decide +kernel
theorem dX10_lay_95 : decode cX10_lay 95 = .ok (.iload_n 3, 1) := by decide +kernel
theorem dX10_lay_96 : decode cX10_lay 96 = .ok (.iconst 1, 1) := by decide +kernel
theorem dX10_lay_97 : decode cX10_lay 97 = .ok (.iadd, 1) := by decide +kernel
theorem dX10_lay_98 : decode cX10_lay 98 = .ok (.iconst 2, 1) := by decide +kernel
theorem dX10_lay_99 : decode cX10_lay 99 = .ok (.idiv, 1) := by decide +kernel
theorem dX10_lay_100 : decode cX10_lay 100 = .ok (.putfield 133, 3) := by decide +kernel
theorem dX10_lay_103 : decode cX10_lay 103 = .ok (.iconst 0, 1) := by decide +kernel
theorem dX10_lay_104 : decode cX10_lay 104 = .ok (.istore 5, 2) := by decide +kernel
theorem dX10_lay_106 : decode cX10_lay 106 = .ok (.iload 5, 2) := by decide +kernel
theorem dX10_lay_108 : decode cX10_lay 108 = .ok (.aload_n 0, 1) := by decide +kernel
theorem dX10_lay_109 : decode cX10_lay 109 = .ok (.getfield 133, 3) := by decide +kernel
theorem dX10_lay_112 : decode cX10_lay 112 = .ok (.if_icmp .gt 72, 3) := by decide +kernel
theorem dX10_lay_115 : decode cX10_lay 115 = .ok (.aload_n 0, 1) := by decide +kernel
theorem dX10_lay_116 : decode cX10_lay 116 = .ok (.getfield 119, 3) := by decide +kernel
theorem dX10_lay_119 : decode cX10_lay 119 = .ok (.istore 6, 2) := by decide +kernel
theorem dX10_lay_121 : decode cX10_lay 121 = .ok (.iload 6, 2) := by decide +kernel
theorem dX10_lay_123 : decode cX10_lay 123 = .ok (.ifCond .lt 55, 3) := by decide +kernel
theorem dX10_lay_126 : decode cX10_lay 126 = .ok (.aload_n 0, 1) := by decide +kernel
theorem dX10_lay_127 : decode cX10_lay 127 = .ok (.getfield 77, 3) := by decide +kernel
theorem dX10_lay_130 : decode cX10_lay 130 = .ok (.sipush 254, 3) := by decide +kernel
theorem dX10_lay_133 : decode cX10_lay 133 = .ok (.iload 5, 2) := by decide +kernel
theorem dX10_lay_135 : decode cX10_lay 135 = .ok (.imul, 1) := by decide +kernel
theorem dX10_lay_136 : decode cX10_lay 136 = .ok (.iload 6, 2) := by decide +kernel
theorem dX10_lay_138 : decode cX10_lay 138 = .ok (.iadd, 1) := by decide +kernel
theorem dX10_lay_139 : decode cX10_lay 139 = .ok (.iload 5, 2) := by decide +kernel
theorem dX10_lay_141 : decode cX10_lay 141 = .ok (.ifCond .ne 21, 3) := by decide +kernel
theorem dX10_lay_144 : decode cX10_lay 144 = .ok (.iload 6, 2) := by decide +kernel
theorem dX10_lay_146 : decode cX10_lay 146 = .ok (.aload_n 0, 1) := by decide +kernel
theorem dX10_lay_147 : decode cX10_lay 147 = .ok (.getfield 119, 3) := by decide +kernel
theorem dX10_lay_150 : decode cX10_lay 150 = .ok (.if_icmp .ne 7, 3) := by decide +kernel
theorem dX10_lay_153 : decode cX10_lay 153 = .ok (.iconst 0, 1) := by decide +kernel
theorem dX10_lay_154 : decode cX10_lay 154 = .ok (.goto 17, 3) := by decide +kernel
theorem dX10_lay_157 : decode cX10_lay 157 = .ok (.ldc 136, 2) := by decide +kernel
theorem dX10_lay_159 : decode cX10_lay 159 = .ok (.goto 12, 3) := by decide +kernel
theorem dX10_lay_162 : decode cX10_lay 162 = .ok (.aload_n 0, 1) := by decide +kernel
theorem dX10_lay_163 : decode cX10_lay 163 = .ok (.iload 5, 2) := by decide +kernel
theorem dX10_lay_165 : decode cX10_lay 165 = .ok (.iload 6, 2) := by decide +kernel
theorem dX10_lay_167 : decode cX10_lay 167 = .ok (.iload_n 2, 1) := by decide +kernel
theorem dX10_lay_168 : decode cX10_lay 168 = .ok (.invokevirtual 137, 3) := by decide +kernel
theorem dX10_lay_171 : decode cX10_lay 171 = .ok (.iastore, 1) := by decide +kernel
theorem dX10_lay_172 : decode cX10_lay 172 = .ok (.iinc 6 (-1), 3) := by decide +kernel
theorem dX10_lay_175 : decode cX10_lay 175 = .ok (.goto (-54), 3) := by decide +kernel
theorem dX10_lay_178 : decode cX10_lay 178 = .ok (.iinc 5 1, 3) := by decide +kernel
theorem dX10_lay_181 : decode cX10_lay 181 = .ok (.goto (-75), 3) := by decide +kernel
theorem dX10_lay_184 : decode cX10_lay 184 = .ok (.aload_n 0, 1) := by decide +kernel
theorem dX10_lay_185 : decode cX10_lay 185 = .ok (.aload_n 0, 1) := by decide +kernel
theorem dX10_lay_186 : decode cX10_lay 186 = .ok (.getfield 77, 3) := by decide +kernel
theorem dX10_lay_189 : decode cX10_lay 189 = .ok (.sipush 254, 3) := by decide +kernel
theorem dX10_lay_192 : decode cX10_lay 192 = .ok (.aload_n 0, 1) := by decide +kernel
theorem dX10_lay_193 : decode cX10_lay 193 = .ok (.getfield 133, 3) := by decide +kernel
theorem dX10_lay_196 : decode cX10_lay 196 = .ok (.imul, 1) := by decide +kernel
theorem dX10_lay_197 : decode cX10_lay 197 = .ok (.iaload, 1) := by decide +kernel
theorem dX10_lay_198 : decode cX10_lay 198 = .ok (.putfield 141, 3) := by decide +kernel
theorem dX10_lay_201 : decode cX10_lay 201 = .ok (.iconst 0, 1) := by decide +kernel
theorem dX10_lay_202 : decode cX10_lay 202 = .ok (.istore 4, 2) := by decide +kernel
theorem dX10_lay_204 : decode cX10_lay 204 = .ok (.aload_n 0, 1) := by decide +kernel
theorem dX10_lay_205 : decode cX10_lay 205 = .ok (.getfield 133, 3) := by decide +kernel
theorem dX10_lay_208 : decode cX10_lay 208 = .ok (.istore 5, 2) := by decide +kernel
theorem dX10_lay_210 : decode cX10_lay 210 = .ok (.iload 5, 2) := by decide +kernel
theorem dX10_lay_212 : decode cX10_lay 212 = .ok (.ifCond .le 204, 3) := by decide +kernel
theorem dX10_lay_215 : decode cX10_lay 215 = .ok (.iconst 2, 1) := by decide +kernel
theorem dX10_lay_216 : decode cX10_lay 216 = .ok (.aload_n 0, 1) := by decide +kernel
theorem dX10_lay_217 : decode cX10_lay 217 = .ok (.getfield 133, 3) := by decide +kernel
theorem dX10_lay_220 : decode cX10_lay 220 = .ok (.iload 5, 2) := by decide +kernel
theorem dX10_lay_222 : decode cX10_lay 222 = .ok (.isub, 1) := by decide +kernel
theorem dX10_lay_223 : decode cX10_lay 223 = .ok (.imul, 1) := by decide +kernel
theorem dX10_lay_224 : decode cX10_lay 224 = .ok (.istore 6, 2) := by decide +kernel
theorem dX10_lay_226 : decode cX10_lay 226 = .ok (.iconst 0, 1) := by decide +kernel
theorem dX10_lay_227 : decode cX10_lay 227 = .ok (.istore 7, 2) := by decide +kernel
theorem dX10_lay_229 : decode cX10_lay 229 = .ok (.aload_n 0, 1) := by decide +kernel
theorem dX10_lay_230 : decode cX10_lay 230 = .ok (.iload 4, 2) := by decide +kernel
theorem dX10_lay_232 : decode cX10_lay 232 = .ok (.iload_n 2, 1) := by decide +kernel
theorem dX10_lay_233 : decode cX10_lay 233 = .ok (.invokevirtual 130, 3) := by decide +kernel
theorem dX10_lay_236 : decode cX10_lay 236 = .ok (.istore 8, 2) := by decide +kernel
theorem dX10_lay_238 : decode cX10_lay 238 = .ok (.iload 8, 2) := by decide +kernel
theorem dX10_lay_240 : decode cX10_lay 240 = .ok (.ifCond .le 148, 3) := by decide +kernel
theorem dX10_lay_243 : decode cX10_lay 243 = .ok (.iload 7, 2) := by decide +kernel
theorem dX10_lay_245 : decode cX10_lay 245 = .ok (.ifCond .ne 143, 3) := by decide +kernel
theorem dX10_lay_248 : decode cX10_lay 248 = .ok (.iload 4, 2) := by decide +kernel
theorem dX10_lay_250 : decode cX10_lay 250 = .ok (.iload 8, 2) := by decide +kernel
theorem dX10_lay_252 : decode cX10_lay 252 = .ok (.iadd, 1) := by decide +kernel
theorem dX10_lay_253 : decode cX10_lay 253 = .ok (.aload_n 0, 1) := by decide +kernel
theorem dX10_lay_254 : decode cX10_lay 254 = .ok (.getfield 119, 3) := by decide +kernel
theorem dX10_lay_257 : decode cX10_lay 257 = .ok (.if_icmp .ge 16, 3) := by decide +kernel
theorem dX10_lay_260 : decode cX10_lay 260 = .ok (.aload_n 0, 1) := by decide +kernel
theorem dX10_lay_261 : decode cX10_lay 261 = .ok (.iload 4, 2) := by decide +kernel
theorem dX10_lay_263 : decode cX10_lay 263 = .ok (.iload 8, 2) := by decide +kernel
theorem dX10_lay_265 : decode cX10_lay 265 = .ok (.iadd, 1) := by decide +kernel
theorem dX10_lay_266 : decode cX10_lay 266 = .ok (.iload_n 2, 1) := by decide +kernel
theorem dX10_lay_267 : decode cX10_lay 267 = .ok (.invokevirtual 130, 3) := by decide +kernel
theorem dX10_lay_270 : decode cX10_lay 270 = .ok (.goto 4, 3) := by decide +kernel
theorem dX10_lay_273 : decode cX10_lay 273 = .ok (.iconst 0, 1) := by decide +kernel
theorem dX10_lay_274 : decode cX10_lay 274 = .ok (.istore 9, 2) := by decide +kernel
theorem dX10_lay_276 : decode cX10_lay 276 = .ok (.iload 9, 2) := by decide +kernel
theorem dX10_lay_278 : decode cX10_lay 278 = .ok (.ifCond .lt 104, 3) := by decide +kernel
theorem dX10_lay_281 : decode cX10_lay 281 = .ok (.iload 7, 2) := by decide +kernel
theorem dX10_lay_283 : decode cX10_lay 283 = .ok (.ifCond .ne 99, 3) := by decide +kernel
theorem dX10_lay_286 : decode cX10_lay 286 = .ok (.aload_n 0, 1) := by decide +kernel
theorem dX10_lay_287 : decode cX10_lay 287 = .ok (.getfield 77, 3) := by decide +kernel
theorem dX10_lay_290 : decode cX10_lay 290 = .ok (.sipush 254, 3) := by decide +kernel
theorem dX10_lay_293 : decode cX10_lay 293 = .ok (.iload 5, 2) := by decide +kernel
theorem dX10_lay_295 : decode cX10_lay 295 = .ok (.imul, 1) := by decide +kernel
theorem dX10_lay_296 : decode cX10_lay 296 = .ok (.sipush 254, 3) := by decide +kernel
theorem dX10_lay_299 : decode cX10_lay 299 = .ok (.isub, 1) := by decide +kernel
theorem dX10_lay_300 : decode cX10_lay 300 = .ok (.iload 4, 2) := by decide +kernel
theorem dX10_lay_302 : decode cX10_lay 302 = .ok (.iadd, 1) := by decide +kernel
theorem dX10_lay_303 : decode cX10_lay 303 = .ok (.iload 8, 2) := by decide +kernel
theorem dX10_lay_305 : decode cX10_lay 305 = .ok (.iadd, 1) := by decide +kernel
theorem dX10_lay_306 : decode cX10_lay 306 = .ok (.iload 9, 2) := by decide +kernel
theorem dX10_lay_308 : decode cX10_lay 308 = .ok (.iadd, 1) := by decide +kernel
theorem dX10_lay_309 : decode cX10_lay 309 = .ok (.iaload, 1) := by decide +kernel
theorem dX10_lay_310 : decode cX10_lay 310 = .ok (.aload_n 0, 1) := by decide +kernel
theorem dX10_lay_311 : decode cX10_lay 311 = .ok (.iload 4, 2) := by decide +kernel
theorem dX10_lay_313 : decode cX10_lay 313 = .ok (.iload 8, 2) := by decide +kernel
theorem dX10_lay_315 : decode cX10_lay 315 = .ok (.iload_n 2, 1) := by decide +kernel
theorem dX10_lay_316 : decode cX10_lay 316 = .ok (.invokevirtual 144, 3) := by decide +kernel
theorem dX10_lay_319 : decode cX10_lay 319 = .ok (.iadd, 1) := by decide +kernel
theorem dX10_lay_320 : decode cX10_lay 320 = .ok (.aload_n 0, 1) := by decide +kernel
theorem dX10_lay_321 : decode cX10_lay 321 = .ok (.iload 4, 2) := by decide +kernel
theorem dX10_lay_323 : decode cX10_lay 323 = .ok (.iload 8, 2) := by decide +kernel
theorem dX10_lay_325 : decode cX10_lay 325 = .ok (.iadd, 1) := by decide +kernel
theorem dX10_lay_326 : decode cX10_lay 326 = .ok (.iload 9, 2) := by decide +kernel
theorem dX10_lay_328 : decode cX10_lay 328 = .ok (.iload_n 2, 1) := by decide +kernel
theorem dX10_lay_329 : decode cX10_lay 329 = .ok (.invokevirtual 144, 3) := by decide +kernel
theorem dX10_lay_332 : decode cX10_lay 332 = .ok (.iadd, 1) := by decide +kernel
theorem dX10_lay_333 : decode cX10_lay 333 = .ok (.aload_n 0, 1) := by decide +kernel
theorem dX10_lay_334 : decode cX10_lay 334 = .ok (.getfield 77, 3) := by decide +kernel
theorem dX10_lay_337 : decode cX10_lay 337 = .ok (.sipush 254, 3) := by decide +kernel
theorem dX10_lay_340 : decode cX10_lay 340 = .ok (.iload 5, 2) := by decide +kernel
theorem dX10_lay_342 : decode cX10_lay 342 = .ok (.imul, 1) := by decide +kernel
theorem dX10_lay_343 : decode cX10_lay 343 = .ok (.iload 4, 2) := by decide +kernel
theorem dX10_lay_345 : decode cX10_lay 345 = .ok (.iadd, 1) := by decide +kernel
theorem dX10_lay_346 : decode cX10_lay 346 = .ok (.iaload, 1) := by decide +kernel
theorem dX10_lay_347 : decode cX10_lay 347 = .ok (.if_icmp .eq 6, 3) := by decide +kernel
theorem dX10_lay_350 : decode cX10_lay 350 = .ok (.goto 26, 3) := by decide +kernel
theorem dX10_lay_353 : decode cX10_lay 353 = .ok (.iconst 1, 1) := by decide +kernel
theorem dX10_lay_354 : decode cX10_lay 354 = .ok (.istore 7, 2) := by decide +kernel
theorem dX10_lay_356 : decode cX10_lay 356 = .ok (.aload_n 0, 1) := by decide +kernel
theorem dX10_lay_357 : decode cX10_lay 357 = .ok (.getfield 80, 3) := by decide +kernel
theorem dX10_lay_360 : decode cX10_lay 360 = .ok (.iload 6, 2) := by decide +kernel
theorem dX10_lay_362 : decode cX10_lay 362 = .ok (.iload 8, 2) := by decide +kernel
theorem dX10_lay_364 : decode cX10_lay 364 = .ok (.iastore, 1) := by decide +kernel
theorem dX10_lay_365 : decode cX10_lay 365 = .ok (.aload_n 0, 1) := by decide +kernel
theorem dX10_lay_366 : decode cX10_lay 366 = .ok (.getfield 80, 3) := by decide +kernel
theorem dX10_lay_369 : decode cX10_lay 369 = .ok (.iload 6, 2) := by decide +kernel
theorem dX10_lay_371 : decode cX10_lay 371 = .ok (.iconst 1, 1) := by decide +kernel
theorem dX10_lay_372 : decode cX10_lay 372 = .ok (.iadd, 1) := by decide +kernel
theorem dX10_lay_373 : decode cX10_lay 373 = .ok (.iload 9, 2) := by decide +kernel
theorem dX10_lay_375 : decode cX10_lay 375 = .ok (.iastore, 1) := by decide +kernel
theorem dX10_lay_376 : decode cX10_lay 376 = .ok (.iinc 9 (-1), 3) := by decide +kernel
theorem dX10_lay_379 : decode cX10_lay 379 = .ok (.goto (-103), 3) := by decide +kernel
theorem dX10_lay_382 : decode cX10_lay 382 = .ok (.iinc 8 (-1), 3) := by decide +kernel
theorem dX10_lay_385 : decode cX10_lay 385 = .ok (.goto (-147), 3) := by decide +kernel
theorem dX10_lay_388 : decode cX10_lay 388 = .ok (.iload 4, 2) := by decide +kernel
theorem dX10_lay_390 : decode cX10_lay 390 = .ok (.aload_n 0, 1) := by decide +kernel
theorem dX10_lay_391 : decode cX10_lay 391 = .ok (.getfield 80, 3) := by decide +kernel
theorem dX10_lay_394 : decode cX10_lay 394 = .ok (.iload 6, 2) := by decide +kernel
theorem dX10_lay_396 : decode cX10_lay 396 = .ok (.iaload, 1) := by decide +kernel
theorem dX10_lay_397 : decode cX10_lay 397 = .ok (.aload_n 0, 1) := by decide +kernel
theorem dX10_lay_398 : decode cX10_lay 398 = .ok (.getfield 80, 3) := by decide +kernel
theorem dX10_lay_401 : decode cX10_lay 401 = .ok (.iload 6, 2) := by decide +kernel
theorem dX10_lay_403 : decode cX10_lay 403 = .ok (.iconst 1, 1) := by decide +kernel
theorem dX10_lay_404 : decode cX10_lay 404 = .ok (.iadd, 1) := by decide +kernel
theorem dX10_lay_405 : decode cX10_lay 405 = .ok (.iaload, 1) := by decide +kernel
theorem dX10_lay_406 : decode cX10_lay 406 = .ok (.iadd, 1) := by decide +kernel
theorem dX10_lay_407 : decode cX10_lay 407 = .ok (.iadd, 1) := by decide +kernel
theorem dX10_lay_408 : decode cX10_lay 408 = .ok (.istore 4, 2) := by decide +kernel
theorem dX10_lay_410 : decode cX10_lay 410 = .ok (.iinc 5 (-1), 3) := by decide +kernel
theorem dX10_lay_413 : decode cX10_lay 413 = .ok (.goto (-203), 3) := by decide +kernel
theorem dX10_lay_416 : decode cX10_lay 416 = .ok (.iconst 1, 1) := by decide +kernel
theorem dX10_lay_417 : decode cX10_lay 417 = .ok (.ireturn, 1) := by decide +kernel
theorem dX10_paid_0 : decode cX10_paid 0 = .ok (.iload_n 2, 1) := by decide +kernel
theorem dX10_paid_1 : decode cX10_paid 1 = .ok (.ifCond .ne 5, 3) := by decide +kernel
theorem dX10_paid_4 : decode cX10_paid 4 = .ok (.iconst 0, 1) := by decide +kernel
theorem dX10_paid_5 : decode cX10_paid 5 = .ok (.ireturn, 1) := by decide +kernel
theorem dX10_paid_6 : decode cX10_paid 6 = .ok (.iload_n 3, 1) := by decide +kernel
theorem dX10_paid_7 : decode cX10_paid 7 = .ok (.aload_n 0, 1) := by decide +kernel
theorem dX10_paid_8 : decode cX10_paid 8 = .ok (.iload_n 1, 1) := by decide +kernel
theorem dX10_paid_9 : decode cX10_paid 9 = .ok (.iload_n 2, 1) := by decide +kernel
theorem dX10_paid_10 : decode cX10_paid 10 = .ok (.invokevirtual 122, 3) := by decide +kernel
theorem dX10_paid_13 : decode cX10_paid 13 = .ok (.isub, 1) := by decide +kernel
theorem dX10_paid_14 : decode cX10_paid 14 = .ok (.istore 4, 2) := by decide +kernel
theorem dX10_paid_16 : decode cX10_paid 16 = .ok (.iload 4, 2) := by decide +kernel
theorem dX10_paid_18 : decode cX10_paid 18 = .ok (.iload 4, 2) := by decide +kernel
theorem dX10_paid_20 : decode cX10_paid 20 = .ok (.imul, 1) := by decide +kernel
theorem dX10_paid_21 : decode cX10_paid 21 = .ok (.ireturn, 1) := by decide +kernel
theorem dX10_best_0 : decode cX10_best 0 = .ok (.ldc 136, 2) := by decide +kernel
theorem dX10_best_2 : decode cX10_best 2 = .ok (.istore 4, 2) := by decide +kernel
theorem dX10_best_4 : decode cX10_best 4 = .ok (.iload_n 2, 1) := by decide +kernel
theorem dX10_best_5 : decode cX10_best 5 = .ok (.aload_n 0, 1) := by decide +kernel
theorem dX10_best_6 : decode cX10_best 6 = .ok (.getfield 119, 3) := by decide +kernel
theorem dX10_best_9 : decode cX10_best 9 = .ok (.if_icmp .ne 6, 3) := by decide +kernel
theorem dX10_best_12 : decode cX10_best 12 = .ok (.iload 4, 2) := by decide +kernel
theorem dX10_best_14 : decode cX10_best 14 = .ok (.ireturn, 1) := by decide +kernel
theorem dX10_best_15 : decode cX10_best 15 = .ok (.aload_n 0, 1) := by decide +kernel
theorem dX10_best_16 : decode cX10_best 16 = .ok (.iload_n 2, 1) := by decide +kernel
theorem dX10_best_17 : decode cX10_best 17 = .ok (.iload_n 3, 1) := by decide +kernel
theorem dX10_best_18 : decode cX10_best 18 = .ok (.invokevirtual 130, 3) := by decide +kernel
theorem dX10_best_21 : decode cX10_best 21 = .ok (.istore 5, 2) := by decide +kernel
theorem dX10_best_23 : decode cX10_best 23 = .ok (.iconst 1, 1) := by decide +kernel
theorem dX10_best_24 : decode cX10_best 24 = .ok (.istore 6, 2) := by decide +kernel
theorem dX10_best_26 : decode cX10_best 26 = .ok (.iload 6, 2) := by decide +kernel
theorem dX10_best_28 : decode cX10_best 28 = .ok (.iload 5, 2) := by decide +kernel
theorem dX10_best_30 : decode cX10_best 30 = .ok (.if_icmp .gt 128, 3) := by decide +kernel
theorem dX10_best_33 : decode cX10_best 33 = .ok (.iload_n 2, 1) := by decide +kernel
theorem dX10_best_34 : decode cX10_best 34 = .ok (.iload 6, 2) := by decide +kernel
theorem dX10_best_36 : decode cX10_best 36 = .ok (.iadd, 1) := by decide +kernel
theorem dX10_best_37 : decode cX10_best 37 = .ok (.aload_n 0, 1) := by decide +kernel
theorem dX10_best_38 : decode cX10_best 38 = .ok (.getfield 119, 3) := by decide +kernel
theorem dX10_best_41 : decode cX10_best 41 = .ok (.if_icmp .ge 15, 3) := by decide +kernel
theorem dX10_best_44 : decode cX10_best 44 = .ok (.aload_n 0, 1) := by decide +kernel
theorem dX10_best_45 : decode cX10_best 45 = .ok (.iload_n 2, 1) := by decide +kernel
theorem dX10_best_46 : decode cX10_best 46 = .ok (.iload 6, 2) := by decide +kernel
theorem dX10_best_48 : decode cX10_best 48 = .ok (.iadd, 1) := by decide +kernel
theorem dX10_best_49 : decode cX10_best 49 = .ok (.iload_n 3, 1) := by decide +kernel
theorem dX10_best_50 : decode cX10_best 50 = .ok (.invokevirtual 130, 3) := by decide +kernel
theorem dX10_best_53 : decode cX10_best 53 = .ok (.goto 4, 3) := by decide +kernel
theorem dX10_best_56 : decode cX10_best 56 = .ok (.iconst 0, 1) := by decide +kernel
theorem dX10_best_57 : decode cX10_best 57 = .ok (.istore 7, 2) := by decide +kernel
theorem dX10_best_59 : decode cX10_best 59 = .ok (.iconst 0, 1) := by decide +kernel
theorem dX10_best_60 : decode cX10_best 60 = .ok (.istore 8, 2) := by decide +kernel
theorem dX10_best_62 : decode cX10_best 62 = .ok (.iload 8, 2) := by decide +kernel
theorem dX10_best_64 : decode cX10_best 64 = .ok (.iload 7, 2) := by decide +kernel
theorem dX10_best_66 : decode cX10_best 66 = .ok (.if_icmp .gt 86, 3) := by decide +kernel
theorem dX10_best_69 : decode cX10_best 69 = .ok (.aload_n 0, 1) := by decide +kernel
theorem dX10_best_70 : decode cX10_best 70 = .ok (.getfield 77, 3) := by decide +kernel
theorem dX10_best_73 : decode cX10_best 73 = .ok (.sipush 254, 3) := by decide +kernel
theorem dX10_best_76 : decode cX10_best 76 = .ok (.iload_n 1, 1) := by decide +kernel
theorem dX10_best_77 : decode cX10_best 77 = .ok (.imul, 1) := by decide +kernel
theorem dX10_best_78 : decode cX10_best 78 = .ok (.sipush 254, 3) := by decide +kernel
theorem dX10_best_81 : decode cX10_best 81 = .ok (.isub, 1) := by decide +kernel
theorem dX10_best_82 : decode cX10_best 82 = .ok (.iload_n 2, 1) := by decide +kernel
theorem dX10_best_83 : decode cX10_best 83 = .ok (.iadd, 1) := by decide +kernel
theorem dX10_best_84 : decode cX10_best 84 = .ok (.iload 6, 2) := by decide +kernel
theorem dX10_best_86 : decode cX10_best 86 = .ok (.iadd, 1) := by decide +kernel
theorem dX10_best_87 : decode cX10_best 87 = .ok (.iload 8, 2) := by decide +kernel
theorem dX10_best_89 : decode cX10_best 89 = .ok (.iadd, 1) := by decide +kernel
theorem dX10_best_90 : decode cX10_best 90 = .ok (.iaload, 1) := by decide +kernel
theorem dX10_best_91 : decode cX10_best 91 = .ok (.istore 9, 2) := by decide +kernel
theorem dX10_best_93 : decode cX10_best 93 = .ok (.iload 9, 2) := by decide +kernel
theorem dX10_best_95 : decode cX10_best 95 = .ok (.ldc 136, 2) := by decide +kernel
theorem dX10_best_97 : decode cX10_best 97 = .ok (.if_icmp .lt 8, 3) := by decide +kernel
theorem dX10_best_100 : decode cX10_best 100 = .ok (.ldc 136, 2) := by decide +kernel
theorem dX10_best_102 : decode cX10_best 102 = .ok (.goto 26, 3) := by decide +kernel
theorem dX10_best_105 : decode cX10_best 105 = .ok (.iload 9, 2) := by decide +kernel
theorem dX10_best_107 : decode cX10_best 107 = .ok (.aload_n 0, 1) := by decide +kernel
theorem dX10_best_108 : decode cX10_best 108 = .ok (.iload_n 2, 1) := by decide +kernel
theorem dX10_best_109 : decode cX10_best 109 = .ok (.iload 6, 2) := by decide +kernel
theorem dX10_best_111 : decode cX10_best 111 = .ok (.iload_n 3, 1) := by decide +kernel
theorem dX10_best_112 : decode cX10_best 112 = .ok (.invokevirtual 144, 3) := by decide +kernel
theorem dX10_best_115 : decode cX10_best 115 = .ok (.iadd, 1) := by decide +kernel
theorem dX10_best_116 : decode cX10_best 116 = .ok (.aload_n 0, 1) := by decide +kernel
theorem dX10_best_117 : decode cX10_best 117 = .ok (.iload_n 2, 1) := by decide +kernel
theorem dX10_best_118 : decode cX10_best 118 = .ok (.iload 6, 2) := by decide +kernel
theorem dX10_best_120 : decode cX10_best 120 = .ok (.iadd, 1) := by decide +kernel
theorem dX10_best_121 : decode cX10_best 121 = .ok (.iload 8, 2) := by decide +kernel
theorem dX10_best_123 : decode cX10_best 123 = .ok (.iload_n 3, 1) := by decide +kernel
theorem dX10_best_124 : decode cX10_best 124 = .ok (.invokevirtual 144, 3) := by decide +kernel
theorem dX10_best_127 : decode cX10_best 127 = .ok (.iadd, 1) := by decide +kernel
theorem dX10_best_128 : decode cX10_best 128 = .ok (.istore 9, 2) := by decide +kernel
theorem dX10_best_130 : decode cX10_best 130 = .ok (.iload 9, 2) := by decide +kernel
theorem dX10_best_132 : decode cX10_best 132 = .ok (.iload 4, 2) := by decide +kernel
theorem dX10_best_134 : decode cX10_best 134 = .ok (.if_icmp .ge 8, 3) := by decide +kernel
theorem dX10_best_137 : decode cX10_best 137 = .ok (.iload 9, 2) := by decide +kernel
theorem dX10_best_139 : decode cX10_best 139 = .ok (.goto 5, 3) := by decide +kernel
theorem dX10_best_142 : decode cX10_best 142 = .ok (.iload 4, 2) := by decide +kernel
theorem dX10_best_144 : decode cX10_best 144 = .ok (.istore 4, 2) := by decide +kernel
theorem dX10_best_146 : decode cX10_best 146 = .ok (.iinc 8 1, 3) := by decide +kernel
theorem dX10_best_149 : decode cX10_best 149 = .ok (.goto (-87), 3) := by decide +kernel
theorem dX10_best_152 : decode cX10_best 152 = .ok (.iinc 6 1, 3) := by decide +kernel
theorem dX10_best_155 : decode cX10_best 155 = .ok (.goto (-129), 3) := by decide +kernel
theorem dX10_best_158 : decode cX10_best 158 = .ok (.iload 4, 2) := by decide +kernel
theorem dX10_best_160 : decode cX10_best 160 = .ok (.ireturn, 1) := by decide +kernel
theorem dX10_layTongue_0 : decode cX10_layTongue 0 = .ok (.iconst 4, 1) := by decide +kernel
theorem dX10_layTongue_1 : decode cX10_layTongue 1 = .ok (.iload_n 1, 1) := by decide +kernel
theorem dX10_layTongue_2 : decode cX10_layTongue 2 = .ok (.imul, 1) := by decide +kernel
theorem dX10_layTongue_3 : decode cX10_layTongue 3 = .ok (.iload_n 2, 1) := by decide +kernel
theorem dX10_layTongue_4 : decode cX10_layTongue 4 = .ok (.iadd, 1) := by decide +kernel
theorem dX10_layTongue_5 : decode cX10_layTongue 5 = .ok (.istore_n 3, 1) := by decide +kernel
theorem dX10_layTongue_6 : decode cX10_layTongue 6 = .ok (.aload_n 0, 1) := by decide +kernel
theorem dX10_layTongue_7 : decode cX10_layTongue 7 = .ok (.getfield 55, 3) := by decide +kernel
theorem dX10_layTongue_10 : decode cX10_layTongue 10 = .ok (.iload_n 3, 1) := by decide +kernel
theorem dX10_layTongue_11 : decode cX10_layTongue 11 = .ok (.baload, 1) := by decide +kernel
theorem dX10_layTongue_12 : decode cX10_layTongue 12 = .ok (.ifCond .eq 50, 3) := by decide +kernel
theorem dX10_layTongue_15 : decode cX10_layTongue 15 = .ok (.aload_n 0, 1) := by decide +kernel
theorem dX10_layTongue_16 : decode cX10_layTongue 16 = .ok (.getfield 61, 3) := by decide +kernel
theorem dX10_layTongue_19 : decode cX10_layTongue 19 = .ok (.iload_n 3, 1) := by decide +kernel
theorem dX10_layTongue_20 : decode cX10_layTongue 20 = .ok (.iaload, 1) := by decide +kernel
theorem dX10_layTongue_21 : decode cX10_layTongue 21 = .ok (.istore 4, 2) := by decide +kernel
theorem dX10_layTongue_23 : decode cX10_layTongue 23 = .ok (.iconst 0, 1) := by decide +kernel
theorem dX10_layTongue_24 : decode cX10_layTongue 24 = .ok (.istore 5, 2) := by decide +kernel
theorem dX10_layTongue_26 : decode cX10_layTongue 26 = .ok (.iload 5, 2) := by decide +kernel
theorem dX10_layTongue_28 : decode cX10_layTongue 28 = .ok (.iload 4, 2) := by decide +kernel
theorem dX10_layTongue_30 : decode cX10_layTongue 30 = .ok (.if_icmp .ge 29, 3) := by decide +kernel
theorem dX10_layTongue_33 : decode cX10_layTongue 33 = .ok (.aload_n 0, 1) := by decide +kernel
theorem dX10_layTongue_34 : decode cX10_layTongue 34 = .ok (.getfield 68, 3) := by decide +kernel
theorem dX10_layTongue_37 : decode cX10_layTongue 37 = .ok (.iload 5, 2) := by decide +kernel
theorem dX10_layTongue_39 : decode cX10_layTongue 39 = .ok (.aload_n 0, 1) := by decide +kernel
theorem dX10_layTongue_40 : decode cX10_layTongue 40 = .ok (.getfield 58, 3) := by decide +kernel
theorem dX10_layTongue_43 : decode cX10_layTongue 43 = .ok (.sipush 500, 3) := by decide +kernel
theorem dX10_layTongue_46 : decode cX10_layTongue 46 = .ok (.iload_n 3, 1) := by decide +kernel
theorem dX10_layTongue_47 : decode cX10_layTongue 47 = .ok (.imul, 1) := by decide +kernel
theorem dX10_layTongue_48 : decode cX10_layTongue 48 = .ok (.iload 5, 2) := by decide +kernel
theorem dX10_layTongue_50 : decode cX10_layTongue 50 = .ok (.iadd, 1) := by decide +kernel
theorem dX10_layTongue_51 : decode cX10_layTongue 51 = .ok (.iaload, 1) := by decide +kernel
theorem dX10_layTongue_52 : decode cX10_layTongue 52 = .ok (.iastore, 1) := by decide +kernel
theorem dX10_layTongue_53 : decode cX10_layTongue 53 = .ok (.iinc 5 1, 3) := by decide +kernel
theorem dX10_layTongue_56 : decode cX10_layTongue 56 = .ok (.goto (-30), 3) := by decide +kernel
theorem dX10_layTongue_59 : decode cX10_layTongue 59 = .ok (.goto 67, 3) := by decide +kernel
theorem dX10_layTongue_62 : decode cX10_layTongue 62 = .ok (.aload_n 0, 1) := by decide +kernel
theorem dX10_layTongue_63 : decode cX10_layTongue 63 = .ok (.getfield 48, 3) := by decide +kernel
theorem dX10_layTongue_66 : decode cX10_layTongue 66 = .ok (.iload_n 3, 1) := by decide +kernel
theorem dX10_layTongue_67 : decode cX10_layTongue 67 = .ok (.baload, 1) := by decide +kernel
theorem dX10_layTongue_68 : decode cX10_layTongue 68 = .ok (.ifCond .eq 7, 3) := by decide +kernel
theorem dX10_layTongue_71 : decode cX10_layTongue 71 = .ok (.iload_n 3, 1) := by decide +kernel
theorem dX10_layTongue_72 : decode cX10_layTongue 72 = .ok (.goto 6, 3) := by decide +kernel
theorem dX10_layTongue_75 : decode cX10_layTongue 75 = .ok (.iconst 4, 1) := by decide +kernel
theorem dX10_layTongue_76 : decode cX10_layTongue 76 = .ok (.iload_n 1, 1) := by decide +kernel
theorem dX10_layTongue_77 : decode cX10_layTongue 77 = .ok (.imul, 1) := by decide +kernel
theorem dX10_layTongue_78 : decode cX10_layTongue 78 = .ok (.istore 5, 2) := by decide +kernel
theorem dX10_layTongue_80 : decode cX10_layTongue 80 = .ok (.aload_n 0, 1) := by decide +kernel
theorem dX10_layTongue_81 : decode cX10_layTongue 81 = .ok (.getfield 45, 3) := by decide +kernel
theorem dX10_layTongue_84 : decode cX10_layTongue 84 = .ok (.iload 5, 2) := by decide +kernel
theorem dX10_layTongue_86 : decode cX10_layTongue 86 = .ok (.iaload, 1) := by decide +kernel
theorem dX10_layTongue_87 : decode cX10_layTongue 87 = .ok (.istore 4, 2) := by decide +kernel
theorem dX10_layTongue_89 : decode cX10_layTongue 89 = .ok (.iconst 0, 1) := by decide +kernel
theorem dX10_layTongue_90 : decode cX10_layTongue 90 = .ok (.istore 6, 2) := by decide +kernel
theorem dX10_layTongue_92 : decode cX10_layTongue 92 = .ok (.iload 6, 2) := by decide +kernel
theorem dX10_layTongue_94 : decode cX10_layTongue 94 = .ok (.iload 4, 2) := by decide +kernel
theorem dX10_layTongue_96 : decode cX10_layTongue 96 = .ok (.if_icmp .ge 30, 3) := by decide +kernel
theorem dX10_layTongue_99 : decode cX10_layTongue 99 = .ok (.aload_n 0, 1) := by decide +kernel
theorem dX10_layTongue_100 : decode cX10_layTongue 100 = .ok (.getfield 68, 3) := by decide +kernel
theorem dX10_layTongue_103 : decode cX10_layTongue 103 = .ok (.iload 6, 2) := by decide +kernel
theorem dX10_layTongue_105 : decode cX10_layTongue 105 = .ok (.aload_n 0, 1) := by decide +kernel
theorem dX10_layTongue_106 : decode cX10_layTongue 106 = .ok (.getfield 42, 3) := by decide +kernel
theorem dX10_layTongue_109 : decode cX10_layTongue 109 = .ok (.sipush 500, 3) := by decide +kernel
theorem dX10_layTongue_112 : decode cX10_layTongue 112 = .ok (.iload 5, 2) := by decide +kernel
theorem dX10_layTongue_114 : decode cX10_layTongue 114 = .ok (.imul, 1) := by decide +kernel
theorem dX10_layTongue_115 : decode cX10_layTongue 115 = .ok (.iload 6, 2) := by decide +kernel
theorem dX10_layTongue_117 : decode cX10_layTongue 117 = .ok (.iadd, 1) := by decide +kernel
theorem dX10_layTongue_118 : decode cX10_layTongue 118 = .ok (.iaload, 1) := by decide +kernel
theorem dX10_layTongue_119 : decode cX10_layTongue 119 = .ok (.iastore, 1) := by decide +kernel
theorem dX10_layTongue_120 : decode cX10_layTongue 120 = .ok (.iinc 6 1, 3) := by decide +kernel
theorem dX10_layTongue_123 : decode cX10_layTongue 123 = .ok (.goto (-31), 3) := by decide +kernel
theorem dX10_layTongue_126 : decode cX10_layTongue 126 = .ok (.aload_n 0, 1) := by decide +kernel
theorem dX10_layTongue_127 : decode cX10_layTongue 127 = .ok (.iload 4, 2) := by decide +kernel
theorem dX10_layTongue_129 : decode cX10_layTongue 129 = .ok (.aload_n 0, 1) := by decide +kernel
theorem dX10_layTongue_130 : decode cX10_layTongue 130 = .ok (.getfield 17, 3) := by decide +kernel
theorem dX10_layTongue_133 : decode cX10_layTongue 133 = .ok (.iload_n 2, 1) := by decide +kernel
theorem dX10_layTongue_134 : decode cX10_layTongue 134 = .ok (.iaload, 1) := by decide +kernel
theorem dX10_layTongue_135 : decode cX10_layTongue 135 = .ok (.invokevirtual 147, 3) := by decide +kernel
theorem dX10_layTongue_138 : decode cX10_layTongue 138 = .ok (.istore 5, 2) := by decide +kernel
theorem dX10_layTongue_140 : decode cX10_layTongue 140 = .ok (.return_, 1) := by decide +kernel
theorem dX10_wrong_0 : decode cX10_wrong 0 = .ok (.aload_n 0, 1) := by decide +kernel
theorem dX10_wrong_1 : decode cX10_wrong 1 = .ok (.iload_n 1, 1) := by decide +kernel
theorem dX10_wrong_2 : decode cX10_wrong 2 = .ok (.putfield 151, 3) := by decide +kernel
theorem dX10_wrong_5 : decode cX10_wrong 5 = .ok (.aload_n 0, 1) := by decide +kernel
theorem dX10_wrong_6 : decode cX10_wrong 6 = .ok (.iload_n 2, 1) := by decide +kernel
theorem dX10_wrong_7 : decode cX10_wrong 7 = .ok (.putfield 83, 3) := by decide +kernel
theorem dX10_wrong_10 : decode cX10_wrong 10 = .ok (.iconst 0, 1) := by decide +kernel
theorem dX10_wrong_11 : decode cX10_wrong 11 = .ok (.ireturn, 1) := by decide +kernel
theorem dX10_wordAt_0 : decode cX10_wordAt 0 = .ok (.iconst 1, 1) := by decide +kernel
theorem dX10_wordAt_1 : decode cX10_wordAt 1 = .ok (.istore_n 3, 1) := by decide +kernel
theorem dX10_wordAt_2 : decode cX10_wordAt 2 = .ok (.iconst 0, 1) := by decide +kernel
theorem dX10_wordAt_3 : decode cX10_wordAt 3 = .ok (.istore 4, 2) := by decide +kernel
theorem dX10_wordAt_5 : decode cX10_wordAt 5 = .ok (.iload 4, 2) := by decide +kernel
theorem dX10_wordAt_7 : decode cX10_wordAt 7 = .ok (.aload_n 0, 1) := by decide +kernel
theorem dX10_wordAt_8 : decode cX10_wordAt 8 = .ok (.getfield 110, 3) := by decide +kernel
theorem dX10_wordAt_11 : decode cX10_wordAt 11 = .ok (.arraylength, 1) := by decide +kernel
theorem dX10_wordAt_12 : decode cX10_wordAt 12 = .ok (.if_icmp .ge 114, 3) := by decide +kernel
theorem dX10_wordAt_15 : decode cX10_wordAt 15 = .ok (.iconst 0, 1) := by decide +kernel
theorem dX10_wordAt_16 : decode cX10_wordAt 16 = .ok (.istore 5, 2) := by decide +kernel
theorem dX10_wordAt_18 : decode cX10_wordAt 18 = .ok (.aload_n 0, 1) := by decide +kernel
theorem dX10_wordAt_19 : decode cX10_wordAt 19 = .ok (.getfield 110, 3) := by decide +kernel
theorem dX10_wordAt_22 : decode cX10_wordAt 22 = .ok (.iload 4, 2) := by decide +kernel
theorem dX10_wordAt_24 : decode cX10_wordAt 24 = .ok (.iload 5, 2) := by decide +kernel
theorem dX10_wordAt_26 : decode cX10_wordAt 26 = .ok (.iadd, 1) := by decide +kernel
theorem dX10_wordAt_27 : decode cX10_wordAt 27 = .ok (.iaload, 1) := by decide +kernel
theorem dX10_wordAt_28 : decode cX10_wordAt 28 = .ok (.bipush 32, 2) := by decide +kernel
theorem dX10_wordAt_30 : decode cX10_wordAt 30 = .ok (.if_icmp .eq 9, 3) := by decide +kernel
theorem dX10_wordAt_33 : decode cX10_wordAt 33 = .ok (.iinc 5 1, 3) := by decide +kernel
theorem dX10_wordAt_36 : decode cX10_wordAt 36 = .ok (.goto (-18), 3) := by decide +kernel
theorem dX10_wordAt_39 : decode cX10_wordAt 39 = .ok (.iload 5, 2) := by decide +kernel
theorem dX10_wordAt_41 : decode cX10_wordAt 41 = .ok (.iload_n 2, 1) := by decide +kernel
theorem dX10_wordAt_42 : decode cX10_wordAt 42 = .ok (.iload_n 1, 1) := by decide +kernel
theorem dX10_wordAt_43 : decode cX10_wordAt 43 = .ok (.isub, 1) := by decide +kernel
theorem dX10_wordAt_44 : decode cX10_wordAt 44 = .ok (.if_icmp .ne 7, 3) := by decide +kernel
theorem dX10_wordAt_47 : decode cX10_wordAt 47 = .ok (.iconst 1, 1) := by decide +kernel
theorem dX10_wordAt_48 : decode cX10_wordAt 48 = .ok (.goto 4, 3) := by decide +kernel
theorem dX10_wordAt_51 : decode cX10_wordAt 51 = .ok (.iconst 0, 1) := by decide +kernel
theorem dX10_wordAt_52 : decode cX10_wordAt 52 = .ok (.istore 6, 2) := by decide +kernel
theorem dX10_wordAt_54 : decode cX10_wordAt 54 = .ok (.iconst 0, 1) := by decide +kernel
theorem dX10_wordAt_55 : decode cX10_wordAt 55 = .ok (.istore 7, 2) := by decide +kernel
theorem dX10_wordAt_57 : decode cX10_wordAt 57 = .ok (.iload 7, 2) := by decide +kernel
theorem dX10_wordAt_59 : decode cX10_wordAt 59 = .ok (.iload 5, 2) := by decide +kernel
theorem dX10_wordAt_61 : decode cX10_wordAt 61 = .ok (.if_icmp .ge 43, 3) := by decide +kernel
theorem dX10_wordAt_64 : decode cX10_wordAt 64 = .ok (.iload 6, 2) := by decide +kernel
theorem dX10_wordAt_66 : decode cX10_wordAt 66 = .ok (.ifCond .eq 38, 3) := by decide +kernel
theorem dX10_wordAt_69 : decode cX10_wordAt 69 = .ok (.aload_n 0, 1) := by decide +kernel
theorem dX10_wordAt_70 : decode cX10_wordAt 70 = .ok (.getfield 110, 3) := by decide +kernel
theorem dX10_wordAt_73 : decode cX10_wordAt 73 = .ok (.iload 4, 2) := by decide +kernel
theorem dX10_wordAt_75 : decode cX10_wordAt 75 = .ok (.iload 7, 2) := by decide +kernel
theorem dX10_wordAt_77 : decode cX10_wordAt 77 = .ok (.iadd, 1) := by decide +kernel
theorem dX10_wordAt_78 : decode cX10_wordAt 78 = .ok (.iaload, 1) := by decide +kernel
theorem dX10_wordAt_79 : decode cX10_wordAt 79 = .ok (.aload_n 0, 1) := by decide +kernel
theorem dX10_wordAt_80 : decode cX10_wordAt 80 = .ok (.getfield 7, 3) := by decide +kernel
theorem dX10_wordAt_83 : decode cX10_wordAt 83 = .ok (.iload_n 1, 1) := by decide +kernel
theorem dX10_wordAt_84 : decode cX10_wordAt 84 = .ok (.iload 7, 2) := by decide +kernel
theorem dX10_wordAt_86 : decode cX10_wordAt 86 = .ok (.iadd, 1) := by decide +kernel
theorem dX10_wordAt_87 : decode cX10_wordAt 87 = .ok (.iaload, 1) := by decide +kernel
theorem dX10_wordAt_88 : decode cX10_wordAt 88 = .ok (.if_icmp .ne 7, 3) := by decide +kernel
theorem dX10_wordAt_91 : decode cX10_wordAt 91 = .ok (.iconst 1, 1) := by decide +kernel
theorem dX10_wordAt_92 : decode cX10_wordAt 92 = .ok (.goto 4, 3) := by decide +kernel
theorem dX10_wordAt_95 : decode cX10_wordAt 95 = .ok (.iconst 0, 1) := by decide +kernel
theorem dX10_wordAt_96 : decode cX10_wordAt 96 = .ok (.istore 6, 2) := by decide +kernel
theorem dX10_wordAt_98 : decode cX10_wordAt 98 = .ok (.iinc 7 1, 3) := by decide +kernel
theorem dX10_wordAt_101 : decode cX10_wordAt 101 = .ok (.goto (-44), 3) := by decide +kernel
theorem dX10_wordAt_104 : decode cX10_wordAt 104 = .ok (.iload 6, 2) := by decide +kernel
theorem dX10_wordAt_106 : decode cX10_wordAt 106 = .ok (.ifCond .eq 5, 3) := by decide +kernel
theorem dX10_wordAt_109 : decode cX10_wordAt 109 = .ok (.iload_n 3, 1) := by decide +kernel
theorem dX10_wordAt_110 : decode cX10_wordAt 110 = .ok (.ireturn, 1) := by decide +kernel
theorem dX10_wordAt_111 : decode cX10_wordAt 111 = .ok (.iload 4, 2) := by decide +kernel
theorem dX10_wordAt_113 : decode cX10_wordAt 113 = .ok (.iload 5, 2) := by decide +kernel
theorem dX10_wordAt_115 : decode cX10_wordAt 115 = .ok (.iconst 1, 1) := by decide +kernel
theorem dX10_wordAt_116 : decode cX10_wordAt 116 = .ok (.iadd, 1) := by decide +kernel
theorem dX10_wordAt_117 : decode cX10_wordAt 117 = .ok (.iadd, 1) := by decide +kernel
theorem dX10_wordAt_118 : decode cX10_wordAt 118 = .ok (.istore 4, 2) := by decide +kernel
theorem dX10_wordAt_120 : decode cX10_wordAt 120 = .ok (.iinc 3 1, 3) := by decide +kernel
theorem dX10_wordAt_123 : decode cX10_wordAt 123 = .ok (.goto (-118), 3) := by decide +kernel
theorem dX10_wordAt_126 : decode cX10_wordAt 126 = .ok (.iconst (-1), 1) := by decide +kernel
theorem dX10_wordAt_127 : decode cX10_wordAt 127 = .ok (.ireturn, 1) := by decide +kernel
theorem dX10_isSmall_0 : decode cX10_isSmall 0 = .ok (.iload_n 1, 1) := by decide +kernel
theorem dX10_isSmall_1 : decode cX10_isSmall 1 = .ok (.aload_n 0, 1) := by decide +kernel
theorem dX10_isSmall_2 : decode cX10_isSmall 2 = .ok (.getfield 154, 3) := by decide +kernel
theorem dX10_isSmall_5 : decode cX10_isSmall 5 = .ok (.if_icmp .ge 29, 3) := by decide +kernel
theorem dX10_isSmall_8 : decode cX10_isSmall 8 = .ok (.aload_n 0, 1) := by decide +kernel
theorem dX10_isSmall_9 : decode cX10_isSmall 9 = .ok (.getfield 7, 3) := by decide +kernel
theorem dX10_isSmall_12 : decode cX10_isSmall 12 = .ok (.iload_n 1, 1) := by decide +kernel
theorem dX10_isSmall_13 : decode cX10_isSmall 13 = .ok (.iaload, 1) := by decide +kernel
theorem dX10_isSmall_14 : decode cX10_isSmall 14 = .ok (.bipush 97, 2) := by decide +kernel
theorem dX10_isSmall_16 : decode cX10_isSmall 16 = .ok (.if_icmp .lt 18, 3) := by decide +kernel
theorem dX10_isSmall_19 : decode cX10_isSmall 19 = .ok (.aload_n 0, 1) := by decide +kernel
theorem dX10_isSmall_20 : decode cX10_isSmall 20 = .ok (.getfield 7, 3) := by decide +kernel
theorem dX10_isSmall_23 : decode cX10_isSmall 23 = .ok (.iload_n 1, 1) := by decide +kernel
theorem dX10_isSmall_24 : decode cX10_isSmall 24 = .ok (.iaload, 1) := by decide +kernel
theorem dX10_isSmall_25 : decode cX10_isSmall 25 = .ok (.bipush 122, 2) := by decide +kernel
theorem dX10_isSmall_27 : decode cX10_isSmall 27 = .ok (.if_icmp .gt 7, 3) := by decide +kernel
theorem dX10_isSmall_30 : decode cX10_isSmall 30 = .ok (.iconst 1, 1) := by decide +kernel
theorem dX10_isSmall_31 : decode cX10_isSmall 31 = .ok (.goto 4, 3) := by decide +kernel
theorem dX10_isSmall_34 : decode cX10_isSmall 34 = .ok (.iconst 0, 1) := by decide +kernel
theorem dX10_isSmall_35 : decode cX10_isSmall 35 = .ok (.ireturn, 1) := by decide +kernel
theorem dX10_isDigit_0 : decode cX10_isDigit 0 = .ok (.iload_n 1, 1) := by decide +kernel
theorem dX10_isDigit_1 : decode cX10_isDigit 1 = .ok (.aload_n 0, 1) := by decide +kernel
theorem dX10_isDigit_2 : decode cX10_isDigit 2 = .ok (.getfield 154, 3) := by decide +kernel
theorem dX10_isDigit_5 : decode cX10_isDigit 5 = .ok (.if_icmp .ge 29, 3) := by decide +kernel
theorem dX10_isDigit_8 : decode cX10_isDigit 8 = .ok (.aload_n 0, 1) := by decide +kernel
theorem dX10_isDigit_9 : decode cX10_isDigit 9 = .ok (.getfield 7, 3) := by decide +kernel
theorem dX10_isDigit_12 : decode cX10_isDigit 12 = .ok (.iload_n 1, 1) := by decide +kernel
theorem dX10_isDigit_13 : decode cX10_isDigit 13 = .ok (.iaload, 1) := by decide +kernel
theorem dX10_isDigit_14 : decode cX10_isDigit 14 = .ok (.bipush 48, 2) := by decide +kernel
theorem dX10_isDigit_16 : decode cX10_isDigit 16 = .ok (.if_icmp .lt 18, 3) := by decide +kernel
theorem dX10_isDigit_19 : decode cX10_isDigit 19 = .ok (.aload_n 0, 1) := by decide +kernel
theorem dX10_isDigit_20 : decode cX10_isDigit 20 = .ok (.getfield 7, 3) := by decide +kernel
theorem dX10_isDigit_23 : decode cX10_isDigit 23 = .ok (.iload_n 1, 1) := by decide +kernel
theorem dX10_isDigit_24 : decode cX10_isDigit 24 = .ok (.iaload, 1) := by decide +kernel
theorem dX10_isDigit_25 : decode cX10_isDigit 25 = .ok (.bipush 57, 2) := by decide +kernel
theorem dX10_isDigit_27 : decode cX10_isDigit 27 = .ok (.if_icmp .gt 7, 3) := by decide +kernel
theorem dX10_isDigit_30 : decode cX10_isDigit 30 = .ok (.iconst 1, 1) := by decide +kernel
theorem dX10_isDigit_31 : decode cX10_isDigit 31 = .ok (.goto 4, 3) := by decide +kernel
theorem dX10_isDigit_34 : decode cX10_isDigit 34 = .ok (.iconst 0, 1) := by decide +kernel
theorem dX10_isDigit_35 : decode cX10_isDigit 35 = .ok (.ireturn, 1) := by decide +kernel
theorem dX10_take_0 : decode cX10_take 0 = .ok (.aload_n 0, 1) := by decide +kernel
theorem dX10_take_1 : decode cX10_take 1 = .ok (.getfield 157, 3) := by decide +kernel
theorem dX10_take_4 : decode cX10_take 4 = .ok (.aload_n 0, 1) := by decide +kernel
theorem dX10_take_5 : decode cX10_take 5 = .ok (.getfield 154, 3) := by decide +kernel
theorem dX10_take_8 : decode cX10_take 8 = .ok (.if_icmp .ge 44, 3) := by decide +kernel
theorem dX10_take_11 : decode cX10_take 11 = .ok (.aload_n 0, 1) := by decide +kernel
theorem dX10_take_12 : decode cX10_take 12 = .ok (.getfield 7, 3) := by decide +kernel
theorem dX10_take_15 : decode cX10_take 15 = .ok (.aload_n 0, 1) := by decide +kernel
theorem dX10_take_16 : decode cX10_take 16 = .ok (.getfield 157, 3) := by decide +kernel
theorem dX10_take_19 : decode cX10_take 19 = .ok (.iaload, 1) := by decide +kernel
theorem dX10_take_20 : decode cX10_take 20 = .ok (.bipush 10, 2) := by decide +kernel
theorem dX10_take_22 : decode cX10_take 22 = .ok (.if_icmp .eq 17, 3) := by decide +kernel
theorem dX10_take_25 : decode cX10_take 25 = .ok (.aload_n 0, 1) := by decide +kernel
theorem dX10_take_26 : decode cX10_take 26 = .ok (.getfield 7, 3) := by decide +kernel
theorem dX10_take_29 : decode cX10_take 29 = .ok (.aload_n 0, 1) := by decide +kernel
theorem dX10_take_30 : decode cX10_take 30 = .ok (.getfield 157, 3) := by decide +kernel
theorem dX10_take_33 : decode cX10_take 33 = .ok (.iaload, 1) := by decide +kernel
theorem dX10_take_34 : decode cX10_take 34 = .ok (.bipush 32, 2) := by decide +kernel
theorem dX10_take_36 : decode cX10_take 36 = .ok (.if_icmp .ne 16, 3) := by decide +kernel
theorem dX10_take_39 : decode cX10_take 39 = .ok (.aload_n 0, 1) := by decide +kernel
theorem dX10_take_40 : decode cX10_take 40 = .ok (.dup, 1) := by decide +kernel
theorem dX10_take_41 : decode cX10_take 41 = .ok (.getfield 157, 3) := by decide +kernel
theorem dX10_take_44 : decode cX10_take 44 = .ok (.iconst 1, 1) := by decide +kernel
theorem dX10_take_45 : decode cX10_take 45 = .ok (.iadd, 1) := by decide +kernel
theorem dX10_take_46 : decode cX10_take 46 = .ok (.putfield 157, 3) := by decide +kernel
theorem dX10_take_49 : decode cX10_take 49 = .ok (.goto (-49), 3) := by decide +kernel
theorem dX10_take_52 : decode cX10_take 52 = .ok (.aload_n 0, 1) := by decide +kernel
theorem dX10_take_53 : decode cX10_take 53 = .ok (.aload_n 0, 1) := by decide +kernel
theorem dX10_take_54 : decode cX10_take 54 = .ok (.getfield 157, 3) := by decide +kernel
theorem dX10_take_57 : decode cX10_take 57 = .ok (.putfield 160, 3) := by decide +kernel
theorem dX10_take_60 : decode cX10_take 60 = .ok (.aload_n 0, 1) := by decide +kernel
theorem dX10_take_61 : decode cX10_take 61 = .ok (.getfield 157, 3) := by decide +kernel
theorem dX10_take_64 : decode cX10_take 64 = .ok (.aload_n 0, 1) := by decide +kernel
theorem dX10_take_65 : decode cX10_take 65 = .ok (.getfield 154, 3) := by decide +kernel
theorem dX10_take_68 : decode cX10_take 68 = .ok (.if_icmp .ne 11, 3) := by decide +kernel
theorem dX10_take_71 : decode cX10_take 71 = .ok (.aload_n 0, 1) := by decide +kernel
theorem dX10_take_72 : decode cX10_take 72 = .ok (.iconst 0, 1) := by decide +kernel
theorem dX10_take_73 : decode cX10_take 73 = .ok (.putfield 163, 3) := by decide +kernel
theorem dX10_take_76 : decode cX10_take 76 = .ok (.goto 229, 3) := by decide +kernel
theorem dX10_take_79 : decode cX10_take 79 = .ok (.aload_n 0, 1) := by decide +kernel
theorem dX10_take_80 : decode cX10_take 80 = .ok (.aload_n 0, 1) := by decide +kernel
theorem dX10_take_81 : decode cX10_take 81 = .ok (.getfield 157, 3) := by decide +kernel
theorem dX10_take_84 : decode cX10_take 84 = .ok (.invokevirtual 166, 3) := by decide +kernel
theorem dX10_take_87 : decode cX10_take 87 = .ok (.ifCond .eq 63, 3) := by decide +kernel
theorem dX10_take_90 : decode cX10_take 90 = .ok (.aload_n 0, 1) := by decide +kernel
theorem dX10_take_91 : decode cX10_take 91 = .ok (.aload_n 0, 1) := by decide +kernel
theorem dX10_take_92 : decode cX10_take 92 = .ok (.getfield 157, 3) := by decide +kernel
theorem dX10_take_95 : decode cX10_take 95 = .ok (.invokevirtual 166, 3) := by decide +kernel
theorem dX10_take_98 : decode cX10_take 98 = .ok (.ifCond .eq 16, 3) := by decide +kernel
theorem dX10_take_101 : decode cX10_take 101 = .ok (.aload_n 0, 1) := by decide +kernel
theorem dX10_take_102 : decode cX10_take 102 = .ok (.dup, 1) := by decide +kernel
theorem dX10_take_103 : decode cX10_take 103 = .ok (.getfield 157, 3) := by decide +kernel
theorem dX10_take_106 : decode cX10_take 106 = .ok (.iconst 1, 1) := by decide +kernel
theorem dX10_take_107 : decode cX10_take 107 = .ok (.iadd, 1) := by decide +kernel
theorem dX10_take_108 : decode cX10_take 108 = .ok (.putfield 157, 3) := by decide +kernel
theorem dX10_take_111 : decode cX10_take 111 = .ok (.goto (-21), 3) := by decide +kernel
theorem dX10_take_114 : decode cX10_take 114 = .ok (.aload_n 0, 1) := by decide +kernel
theorem dX10_take_115 : decode cX10_take 115 = .ok (.aload_n 0, 1) := by decide +kernel
theorem dX10_take_116 : decode cX10_take 116 = .ok (.aload_n 0, 1) := by decide +kernel
theorem dX10_take_117 : decode cX10_take 117 = .ok (.getfield 160, 3) := by decide +kernel
theorem dX10_take_120 : decode cX10_take 120 = .ok (.aload_n 0, 1) := by decide +kernel
theorem dX10_take_121 : decode cX10_take 121 = .ok (.getfield 157, 3) := by decide +kernel
theorem dX10_take_124 : decode cX10_take 124 = .ok (.invokevirtual 170, 3) := by decide +kernel
theorem dX10_take_127 : decode cX10_take 127 = .ok (.putfield 173, 3) := by decide +kernel
theorem dX10_take_130 : decode cX10_take 130 = .ok (.aload_n 0, 1) := by decide +kernel
theorem dX10_take_131 : decode cX10_take 131 = .ok (.aload_n 0, 1) := by decide +kernel
theorem dX10_take_132 : decode cX10_take 132 = .ok (.getfield 173, 3) := by decide +kernel
theorem dX10_take_135 : decode cX10_take 135 = .ok (.ifCond .ge 8, 3) := by decide +kernel
theorem dX10_take_138 : decode cX10_take 138 = .ok (.bipush 6, 2) := by decide +kernel
theorem dX10_take_140 : decode cX10_take 140 = .ok (.goto 4, 3) := by decide +kernel
theorem dX10_take_143 : decode cX10_take 143 = .ok (.iconst 1, 1) := by decide +kernel
theorem dX10_take_144 : decode cX10_take 144 = .ok (.putfield 163, 3) := by decide +kernel
theorem dX10_take_147 : decode cX10_take 147 = .ok (.goto 158, 3) := by decide +kernel
theorem dX10_take_150 : decode cX10_take 150 = .ok (.aload_n 0, 1) := by decide +kernel
theorem dX10_take_151 : decode cX10_take 151 = .ok (.aload_n 0, 1) := by decide +kernel
theorem dX10_take_152 : decode cX10_take 152 = .ok (.getfield 157, 3) := by decide +kernel
theorem dX10_take_155 : decode cX10_take 155 = .ok (.invokevirtual 176, 3) := by decide +kernel
theorem dX10_take_158 : decode cX10_take 158 = .ok (.ifCond .eq 77, 3) := by decide +kernel
theorem dX10_take_161 : decode cX10_take 161 = .ok (.aload_n 0, 1) := by decide +kernel
theorem dX10_take_162 : decode cX10_take 162 = .ok (.iconst 3, 1) := by decide +kernel
theorem dX10_take_163 : decode cX10_take 163 = .ok (.putfield 163, 3) := by decide +kernel
theorem dX10_take_166 : decode cX10_take 166 = .ok (.aload_n 0, 1) := by decide +kernel
theorem dX10_take_167 : decode cX10_take 167 = .ok (.iconst 0, 1) := by decide +kernel
theorem dX10_take_168 : decode cX10_take 168 = .ok (.putfield 173, 3) := by decide +kernel
theorem dX10_take_171 : decode cX10_take 171 = .ok (.aload_n 0, 1) := by decide +kernel
theorem dX10_take_172 : decode cX10_take 172 = .ok (.aload_n 0, 1) := by decide +kernel
theorem dX10_take_173 : decode cX10_take 173 = .ok (.getfield 157, 3) := by decide +kernel
theorem dX10_take_176 : decode cX10_take 176 = .ok (.invokevirtual 176, 3) := by decide +kernel
theorem dX10_take_179 : decode cX10_take 179 = .ok (.ifCond .eq 126, 3) := by decide +kernel
theorem dX10_take_182 : decode cX10_take 182 = .ok (.aload_n 0, 1) := by decide +kernel
theorem dX10_take_183 : decode cX10_take 183 = .ok (.aload_n 0, 1) := by decide +kernel
theorem dX10_take_184 : decode cX10_take 184 = .ok (.getfield 173, 3) := by decide +kernel
theorem dX10_take_187 : decode cX10_take 187 = .ok (.ldc 179, 2) := by decide +kernel
theorem dX10_take_189 : decode cX10_take 189 = .ok (.if_icmp .le 10, 3) := by decide +kernel
theorem dX10_take_192 : decode cX10_take 192 = .ok (.aload_n 0, 1) := by decide +kernel
theorem dX10_take_193 : decode cX10_take 193 = .ok (.getfield 173, 3) := by decide +kernel
theorem dX10_take_196 : decode cX10_take 196 = .ok (.goto 23, 3) := by decide +kernel
theorem dX10_take_199 : decode cX10_take 199 = .ok (.bipush 10, 2) := by decide +kernel
theorem dX10_take_201 : decode cX10_take 201 = .ok (.aload_n 0, 1) := by decide +kernel
theorem dX10_take_202 : decode cX10_take 202 = .ok (.getfield 173, 3) := by decide +kernel
theorem dX10_take_205 : decode cX10_take 205 = .ok (.imul, 1) := by decide +kernel
theorem dX10_take_206 : decode cX10_take 206 = .ok (.aload_n 0, 1) := by decide +kernel
theorem dX10_take_207 : decode cX10_take 207 = .ok (.getfield 7, 3) := by decide +kernel
theorem dX10_take_210 : decode cX10_take 210 = .ok (.aload_n 0, 1) := by decide +kernel
theorem dX10_take_211 : decode cX10_take 211 = .ok (.getfield 157, 3) := by decide +kernel
theorem dX10_take_214 : decode cX10_take 214 = .ok (.iaload, 1) := by decide +kernel
theorem dX10_take_215 : decode cX10_take 215 = .ok (.iadd, 1) := by decide +kernel
theorem dX10_take_216 : decode cX10_take 216 = .ok (.bipush 48, 2) := by decide +kernel
theorem dX10_take_218 : decode cX10_take 218 = .ok (.isub, 1) := by decide +kernel
theorem dX10_take_219 : decode cX10_take 219 = .ok (.putfield 173, 3) := by decide +kernel
theorem dX10_take_222 : decode cX10_take 222 = .ok (.aload_n 0, 1) := by decide +kernel
theorem dX10_take_223 : decode cX10_take 223 = .ok (.dup, 1) := by decide +kernel
theorem dX10_take_224 : decode cX10_take 224 = .ok (.getfield 157, 3) := by decide +kernel
theorem dX10_take_227 : decode cX10_take 227 = .ok (.iconst 1, 1) := by decide +kernel
theorem dX10_take_228 : decode cX10_take 228 = .ok (.iadd, 1) := by decide +kernel
theorem dX10_take_229 : decode cX10_take 229 = .ok (.putfield 157, 3) := by decide +kernel
theorem dX10_take_232 : decode cX10_take 232 = .ok (.goto (-61), 3) := by decide +kernel
theorem dX10_take_235 : decode cX10_take 235 = .ok (.aload_n 0, 1) := by decide +kernel
theorem dX10_take_236 : decode cX10_take 236 = .ok (.getfield 7, 3) := by decide +kernel
theorem dX10_take_239 : decode cX10_take 239 = .ok (.aload_n 0, 1) := by decide +kernel
theorem dX10_take_240 : decode cX10_take 240 = .ok (.getfield 157, 3) := by decide +kernel
theorem dX10_take_243 : decode cX10_take 243 = .ok (.iaload, 1) := by decide +kernel
theorem dX10_take_244 : decode cX10_take 244 = .ok (.istore_n 1, 1) := by decide +kernel
theorem dX10_take_245 : decode cX10_take 245 = .ok (.aload_n 0, 1) := by decide +kernel
theorem dX10_take_246 : decode cX10_take 246 = .ok (.dup, 1) := by decide +kernel
theorem dX10_take_247 : decode cX10_take 247 = .ok (.getfield 157, 3) := by decide +kernel
theorem dX10_take_250 : decode cX10_take 250 = .ok (.iconst 1, 1) := by decide +kernel
theorem dX10_take_251 : decode cX10_take 251 = .ok (.iadd, 1) := by decide +kernel
theorem dX10_take_252 : decode cX10_take 252 = .ok (.putfield 157, 3) := by decide +kernel
theorem dX10_take_255 : decode cX10_take 255 = .ok (.aload_n 0, 1) := by decide +kernel
theorem dX10_take_256 : decode cX10_take 256 = .ok (.iload_n 1, 1) := by decide +kernel
theorem dX10_take_257 : decode cX10_take 257 = .ok (.bipush 65, 2) := by decide +kernel
theorem dX10_take_259 : decode cX10_take 259 = .ok (.isub, 1) := by decide +kernel
theorem dX10_take_260 : decode cX10_take 260 = .ok (.putfield 173, 3) := by decide +kernel
theorem dX10_take_263 : decode cX10_take 263 = .ok (.aload_n 0, 1) := by decide +kernel
theorem dX10_take_264 : decode cX10_take 264 = .ok (.iload_n 1, 1) := by decide +kernel
theorem dX10_take_265 : decode cX10_take 265 = .ok (.bipush 65, 2) := by decide +kernel
theorem dX10_take_267 : decode cX10_take 267 = .ok (.if_icmp .lt 13, 3) := by decide +kernel
theorem dX10_take_270 : decode cX10_take 270 = .ok (.iload_n 1, 1) := by decide +kernel
theorem dX10_take_271 : decode cX10_take 271 = .ok (.bipush 72, 2) := by decide +kernel
theorem dX10_take_273 : decode cX10_take 273 = .ok (.if_icmp .gt 7, 3) := by decide +kernel
theorem dX10_take_276 : decode cX10_take 276 = .ok (.iconst 2, 1) := by decide +kernel
theorem dX10_take_277 : decode cX10_take 277 = .ok (.goto 15, 3) := by decide +kernel
theorem dX10_take_280 : decode cX10_take 280 = .ok (.iload_n 1, 1) := by decide +kernel
theorem dX10_take_281 : decode cX10_take 281 = .ok (.bipush 59, 2) := by decide +kernel
theorem dX10_take_283 : decode cX10_take 283 = .ok (.if_icmp .ne 7, 3) := by decide +kernel
theorem dX10_take_286 : decode cX10_take 286 = .ok (.iconst 5, 1) := by decide +kernel
theorem dX10_take_287 : decode cX10_take 287 = .ok (.goto 5, 3) := by decide +kernel
theorem dX10_take_290 : decode cX10_take 290 = .ok (.bipush 6, 2) := by decide +kernel
theorem dX10_take_292 : decode cX10_take 292 = .ok (.putfield 163, 3) := by decide +kernel
theorem dX10_take_295 : decode cX10_take 295 = .ok (.iload_n 1, 1) := by decide +kernel
theorem dX10_take_296 : decode cX10_take 296 = .ok (.bipush 34, 2) := by decide +kernel
theorem dX10_take_298 : decode cX10_take 298 = .ok (.if_icmp .ne 7, 3) := by decide +kernel
theorem dX10_take_301 : decode cX10_take 301 = .ok (.aload_n 0, 1) := by decide +kernel
theorem dX10_take_302 : decode cX10_take 302 = .ok (.invokevirtual 180, 3) := by decide +kernel
theorem dX10_take_305 : decode cX10_take 305 = .ok (.return_, 1) := by decide +kernel
theorem dX10_string_0 : decode cX10_string 0 = .ok (.aload_n 0, 1) := by decide +kernel
theorem dX10_string_1 : decode cX10_string 1 = .ok (.getfield 157, 3) := by decide +kernel
theorem dX10_string_4 : decode cX10_string 4 = .ok (.aload_n 0, 1) := by decide +kernel
theorem dX10_string_5 : decode cX10_string 5 = .ok (.getfield 154, 3) := by decide +kernel
theorem dX10_string_8 : decode cX10_string 8 = .ok (.if_icmp .ge 58, 3) := by decide +kernel
theorem dX10_string_11 : decode cX10_string 11 = .ok (.aload_n 0, 1) := by decide +kernel
theorem dX10_string_12 : decode cX10_string 12 = .ok (.getfield 7, 3) := by decide +kernel
theorem dX10_string_15 : decode cX10_string 15 = .ok (.aload_n 0, 1) := by decide +kernel
theorem dX10_string_16 : decode cX10_string 16 = .ok (.getfield 157, 3) := by decide +kernel
theorem dX10_string_19 : decode cX10_string 19 = .ok (.iaload, 1) := by decide +kernel
theorem dX10_string_20 : decode cX10_string 20 = .ok (.bipush 32, 2) := by decide +kernel
theorem dX10_string_22 : decode cX10_string 22 = .ok (.if_icmp .lt 44, 3) := by decide +kernel
theorem dX10_string_25 : decode cX10_string 25 = .ok (.aload_n 0, 1) := by decide +kernel
theorem dX10_string_26 : decode cX10_string 26 = .ok (.getfield 7, 3) := by decide +kernel
theorem dX10_string_29 : decode cX10_string 29 = .ok (.aload_n 0, 1) := by decide +kernel
theorem dX10_string_30 : decode cX10_string 30 = .ok (.getfield 157, 3) := by decide +kernel
theorem dX10_string_33 : decode cX10_string 33 = .ok (.iaload, 1) := by decide +kernel
theorem dX10_string_34 : decode cX10_string 34 = .ok (.bipush 126, 2) := by decide +kernel
theorem dX10_string_36 : decode cX10_string 36 = .ok (.if_icmp .gt 30, 3) := by decide +kernel
theorem dX10_string_39 : decode cX10_string 39 = .ok (.aload_n 0, 1) := by decide +kernel
theorem dX10_string_40 : decode cX10_string 40 = .ok (.getfield 7, 3) := by decide +kernel
theorem dX10_string_43 : decode cX10_string 43 = .ok (.aload_n 0, 1) := by decide +kernel
theorem dX10_string_44 : decode cX10_string 44 = .ok (.getfield 157, 3) := by decide +kernel
theorem dX10_string_47 : decode cX10_string 47 = .ok (.iaload, 1) := by decide +kernel
theorem dX10_string_48 : decode cX10_string 48 = .ok (.bipush 34, 2) := by decide +kernel
theorem dX10_string_50 : decode cX10_string 50 = .ok (.if_icmp .eq 16, 3) := by decide +kernel
theorem dX10_string_53 : decode cX10_string 53 = .ok (.aload_n 0, 1) := by decide +kernel
theorem dX10_string_54 : decode cX10_string 54 = .ok (.dup, 1) := by decide +kernel
theorem dX10_string_55 : decode cX10_string 55 = .ok (.getfield 157, 3) := by decide +kernel
theorem dX10_string_58 : decode cX10_string 58 = .ok (.iconst 1, 1) := by decide +kernel
theorem dX10_string_59 : decode cX10_string 59 = .ok (.iadd, 1) := by decide +kernel
theorem dX10_string_60 : decode cX10_string 60 = .ok (.putfield 157, 3) := by decide +kernel
theorem dX10_string_63 : decode cX10_string 63 = .ok (.goto (-63), 3) := by decide +kernel
theorem dX10_string_66 : decode cX10_string 66 = .ok (.aload_n 0, 1) := by decide +kernel
theorem dX10_string_67 : decode cX10_string 67 = .ok (.aload_n 0, 1) := by decide +kernel
theorem dX10_string_68 : decode cX10_string 68 = .ok (.getfield 157, 3) := by decide +kernel
theorem dX10_string_71 : decode cX10_string 71 = .ok (.aload_n 0, 1) := by decide +kernel
theorem dX10_string_72 : decode cX10_string 72 = .ok (.getfield 154, 3) := by decide +kernel
theorem dX10_string_75 : decode cX10_string 75 = .ok (.if_icmp .ge 21, 3) := by decide +kernel
theorem dX10_string_78 : decode cX10_string 78 = .ok (.aload_n 0, 1) := by decide +kernel
theorem dX10_string_79 : decode cX10_string 79 = .ok (.getfield 7, 3) := by decide +kernel
theorem dX10_string_82 : decode cX10_string 82 = .ok (.aload_n 0, 1) := by decide +kernel
theorem dX10_string_83 : decode cX10_string 83 = .ok (.getfield 157, 3) := by decide +kernel
theorem dX10_string_86 : decode cX10_string 86 = .ok (.iaload, 1) := by decide +kernel
theorem dX10_string_87 : decode cX10_string 87 = .ok (.bipush 34, 2) := by decide +kernel
theorem dX10_string_89 : decode cX10_string 89 = .ok (.if_icmp .ne 7, 3) := by decide +kernel
theorem dX10_string_92 : decode cX10_string 92 = .ok (.iconst 4, 1) := by decide +kernel
theorem dX10_string_93 : decode cX10_string 93 = .ok (.goto 5, 3) := by decide +kernel
theorem dX10_string_96 : decode cX10_string 96 = .ok (.bipush 6, 2) := by decide +kernel
theorem dX10_string_98 : decode cX10_string 98 = .ok (.putfield 163, 3) := by decide +kernel
theorem dX10_string_101 : decode cX10_string 101 = .ok (.aload_n 0, 1) := by decide +kernel
theorem dX10_string_102 : decode cX10_string 102 = .ok (.dup, 1) := by decide +kernel
theorem dX10_string_103 : decode cX10_string 103 = .ok (.getfield 157, 3) := by decide +kernel
theorem dX10_string_106 : decode cX10_string 106 = .ok (.iconst 1, 1) := by decide +kernel
theorem dX10_string_107 : decode cX10_string 107 = .ok (.iadd, 1) := by decide +kernel
theorem dX10_string_108 : decode cX10_string 108 = .ok (.putfield 157, 3) := by decide +kernel
theorem dX10_string_111 : decode cX10_string 111 = .ok (.return_, 1) := by decide +kernel
theorem dX10_number_0 : decode cX10_number 0 = .ok (.aload_n 0, 1) := by decide +kernel
theorem dX10_number_1 : decode cX10_number 1 = .ok (.getfield 163, 3) := by decide +kernel
theorem dX10_number_4 : decode cX10_number 4 = .ok (.iconst 3, 1) := by decide +kernel
theorem dX10_number_5 : decode cX10_number 5 = .ok (.if_icmp .eq 13, 3) := by decide +kernel
theorem dX10_number_8 : decode cX10_number 8 = .ok (.aload_n 0, 1) := by decide +kernel
theorem dX10_number_9 : decode cX10_number 9 = .ok (.iconst 1, 1) := by decide +kernel
theorem dX10_number_10 : decode cX10_number 10 = .ok (.aload_n 0, 1) := by decide +kernel
theorem dX10_number_11 : decode cX10_number 11 = .ok (.getfield 160, 3) := by decide +kernel
theorem dX10_number_14 : decode cX10_number 14 = .ok (.invokevirtual 183, 3) := by decide +kernel
theorem dX10_number_17 : decode cX10_number 17 = .ok (.ireturn, 1) := by decide +kernel
theorem dX10_number_18 : decode cX10_number 18 = .ok (.aload_n 0, 1) := by decide +kernel
theorem dX10_number_19 : decode cX10_number 19 = .ok (.getfield 173, 3) := by decide +kernel
theorem dX10_number_22 : decode cX10_number 22 = .ok (.iload_n 1, 1) := by decide +kernel
theorem dX10_number_23 : decode cX10_number 23 = .ok (.if_icmp .lt 11, 3) := by decide +kernel
theorem dX10_number_26 : decode cX10_number 26 = .ok (.aload_n 0, 1) := by decide +kernel
theorem dX10_number_27 : decode cX10_number 27 = .ok (.getfield 173, 3) := by decide +kernel
theorem dX10_number_30 : decode cX10_number 30 = .ok (.iload_n 2, 1) := by decide +kernel
theorem dX10_number_31 : decode cX10_number 31 = .ok (.if_icmp .le 13, 3) := by decide +kernel
theorem dX10_number_34 : decode cX10_number 34 = .ok (.aload_n 0, 1) := by decide +kernel
theorem dX10_number_35 : decode cX10_number 35 = .ok (.iconst 2, 1) := by decide +kernel
theorem dX10_number_36 : decode cX10_number 36 = .ok (.aload_n 0, 1) := by decide +kernel
theorem dX10_number_37 : decode cX10_number 37 = .ok (.getfield 160, 3) := by decide +kernel
theorem dX10_number_40 : decode cX10_number 40 = .ok (.invokevirtual 183, 3) := by decide +kernel
theorem dX10_number_43 : decode cX10_number 43 = .ok (.ireturn, 1) := by decide +kernel
theorem dX10_number_44 : decode cX10_number 44 = .ok (.aload_n 0, 1) := by decide +kernel
theorem dX10_number_45 : decode cX10_number 45 = .ok (.aload_n 0, 1) := by decide +kernel
theorem dX10_number_46 : decode cX10_number 46 = .ok (.getfield 173, 3) := by decide +kernel
theorem dX10_number_49 : decode cX10_number 49 = .ok (.putfield 186, 3) := by decide +kernel
theorem dX10_number_52 : decode cX10_number 52 = .ok (.aload_n 0, 1) := by decide +kernel
theorem dX10_number_53 : decode cX10_number 53 = .ok (.invokevirtual 189, 3) := by decide +kernel
theorem dX10_number_56 : decode cX10_number 56 = .ok (.iconst 1, 1) := by decide +kernel
theorem dX10_number_57 : decode cX10_number 57 = .ok (.ireturn, 1) := by decide +kernel
theorem dX10_semi_0 : decode cX10_semi 0 = .ok (.aload_n 0, 1) := by decide +kernel
theorem dX10_semi_1 : decode cX10_semi 1 = .ok (.getfield 163, 3) := by decide +kernel
theorem dX10_semi_4 : decode cX10_semi 4 = .ok (.iconst 5, 1) := by decide +kernel
theorem dX10_semi_5 : decode cX10_semi 5 = .ok (.if_icmp .eq 13, 3) := by decide +kernel
theorem dX10_semi_8 : decode cX10_semi 8 = .ok (.aload_n 0, 1) := by decide +kernel
theorem dX10_semi_9 : decode cX10_semi 9 = .ok (.iconst 1, 1) := by decide +kernel
theorem dX10_semi_10 : decode cX10_semi 10 = .ok (.aload_n 0, 1) := by decide +kernel
theorem dX10_semi_11 : decode cX10_semi 11 = .ok (.getfield 160, 3) := by decide +kernel
theorem dX10_semi_14 : decode cX10_semi 14 = .ok (.invokevirtual 183, 3) := by decide +kernel
theorem dX10_semi_17 : decode cX10_semi 17 = .ok (.ireturn, 1) := by decide +kernel
theorem dX10_semi_18 : decode cX10_semi 18 = .ok (.aload_n 0, 1) := by decide +kernel
theorem dX10_semi_19 : decode cX10_semi 19 = .ok (.invokevirtual 189, 3) := by decide +kernel
theorem dX10_semi_22 : decode cX10_semi 22 = .ok (.iconst 1, 1) := by decide +kernel
theorem dX10_semi_23 : decode cX10_semi 23 = .ok (.ireturn, 1) := by decide +kernel
theorem dX10_areWords_0 : decode cX10_areWords 0 = .ok (.iload_n 1, 1) := by decide +kernel
theorem dX10_areWords_1 : decode cX10_areWords 1 = .ok (.istore_n 3, 1) := by decide +kernel
theorem dX10_areWords_2 : decode cX10_areWords 2 = .ok (.iload_n 3, 1) := by decide +kernel
theorem dX10_areWords_3 : decode cX10_areWords 3 = .ok (.iload_n 1, 1) := by decide +kernel
theorem dX10_areWords_4 : decode cX10_areWords 4 = .ok (.iload_n 2, 1) := by decide +kernel
theorem dX10_areWords_5 : decode cX10_areWords 5 = .ok (.iadd, 1) := by decide +kernel
theorem dX10_areWords_6 : decode cX10_areWords 6 = .ok (.if_icmp .ge 52, 3) := by decide +kernel
theorem dX10_areWords_9 : decode cX10_areWords 9 = .ok (.aload_n 0, 1) := by decide +kernel
theorem dX10_areWords_10 : decode cX10_areWords 10 = .ok (.getfield 7, 3) := by decide +kernel
theorem dX10_areWords_13 : decode cX10_areWords 13 = .ok (.iload_n 3, 1) := by decide +kernel
theorem dX10_areWords_14 : decode cX10_areWords 14 = .ok (.iaload, 1) := by decide +kernel
theorem dX10_areWords_15 : decode cX10_areWords 15 = .ok (.bipush 32, 2) := by decide +kernel
theorem dX10_areWords_17 : decode cX10_areWords 17 = .ok (.if_icmp .eq 6, 3) := by decide +kernel
theorem dX10_areWords_20 : decode cX10_areWords 20 = .ok (.goto 32, 3) := by decide +kernel
theorem dX10_areWords_23 : decode cX10_areWords 23 = .ok (.iload_n 3, 1) := by decide +kernel
theorem dX10_areWords_24 : decode cX10_areWords 24 = .ok (.iload_n 1, 1) := by decide +kernel
theorem dX10_areWords_25 : decode cX10_areWords 25 = .ok (.if_icmp .eq 25, 3) := by decide +kernel
theorem dX10_areWords_28 : decode cX10_areWords 28 = .ok (.iload_n 3, 1) := by decide +kernel
theorem dX10_areWords_29 : decode cX10_areWords 29 = .ok (.iload_n 1, 1) := by decide +kernel
theorem dX10_areWords_30 : decode cX10_areWords 30 = .ok (.iload_n 2, 1) := by decide +kernel
theorem dX10_areWords_31 : decode cX10_areWords 31 = .ok (.iadd, 1) := by decide +kernel
theorem dX10_areWords_32 : decode cX10_areWords 32 = .ok (.iconst 1, 1) := by decide +kernel
theorem dX10_areWords_33 : decode cX10_areWords 33 = .ok (.isub, 1) := by decide +kernel
theorem dX10_areWords_34 : decode cX10_areWords 34 = .ok (.if_icmp .eq 16, 3) := by decide +kernel
theorem dX10_areWords_37 : decode cX10_areWords 37 = .ok (.aload_n 0, 1) := by decide +kernel
theorem dX10_areWords_38 : decode cX10_areWords 38 = .ok (.getfield 7, 3) := by decide +kernel
theorem dX10_areWords_41 : decode cX10_areWords 41 = .ok (.iload_n 3, 1) := by decide +kernel
theorem dX10_areWords_42 : decode cX10_areWords 42 = .ok (.iconst 1, 1) := by decide +kernel
theorem dX10_areWords_43 : decode cX10_areWords 43 = .ok (.iadd, 1) := by decide +kernel
theorem dX10_areWords_44 : decode cX10_areWords 44 = .ok (.iaload, 1) := by decide +kernel
theorem dX10_areWords_45 : decode cX10_areWords 45 = .ok (.bipush 32, 2) := by decide +kernel
theorem dX10_areWords_47 : decode cX10_areWords 47 = .ok (.if_icmp .ne 5, 3) := by decide +kernel
theorem dX10_areWords_50 : decode cX10_areWords 50 = .ok (.iconst 0, 1) := by decide +kernel
theorem dX10_areWords_51 : decode cX10_areWords 51 = .ok (.ireturn, 1) := by decide +kernel
theorem dX10_areWords_52 : decode cX10_areWords 52 = .ok (.iinc 3 1, 3) := by decide +kernel
theorem dX10_areWords_55 : decode cX10_areWords 55 = .ok (.goto (-53), 3) := by decide +kernel
theorem dX10_areWords_58 : decode cX10_areWords 58 = .ok (.iconst 1, 1) := by decide +kernel
theorem dX10_areWords_59 : decode cX10_areWords 59 = .ok (.ireturn, 1) := by decide +kernel
theorem dX10_setting_0 : decode cX10_setting 0 = .ok (.aload_n 0, 1) := by decide +kernel
theorem dX10_setting_1 : decode cX10_setting 1 = .ok (.getfield 160, 3) := by decide +kernel
theorem dX10_setting_4 : decode cX10_setting 4 = .ok (.istore_n 1, 1) := by decide +kernel
theorem dX10_setting_5 : decode cX10_setting 5 = .ok (.aload_n 0, 1) := by decide +kernel
theorem dX10_setting_6 : decode cX10_setting 6 = .ok (.getfield 173, 3) := by decide +kernel
theorem dX10_setting_9 : decode cX10_setting 9 = .ok (.istore_n 2, 1) := by decide +kernel
theorem dX10_setting_10 : decode cX10_setting 10 = .ok (.aload_n 0, 1) := by decide +kernel
theorem dX10_setting_11 : decode cX10_setting 11 = .ok (.invokevirtual 189, 3) := by decide +kernel
theorem dX10_setting_14 : decode cX10_setting 14 = .ok (.iload_n 2, 1) := by decide +kernel
theorem dX10_setting_15 : decode cX10_setting 15 = .ok (.iconst 4, 1) := by decide +kernel
theorem dX10_setting_16 : decode cX10_setting 16 = .ok (.if_icmp .ne 42, 3) := by decide +kernel
theorem dX10_setting_19 : decode cX10_setting 19 = .ok (.aload_n 0, 1) := by decide +kernel
theorem dX10_setting_20 : decode cX10_setting 20 = .ok (.getfield 192, 3) := by decide +kernel
theorem dX10_setting_23 : decode cX10_setting 23 = .ok (.ifCond .le 10, 3) := by decide +kernel
theorem dX10_setting_26 : decode cX10_setting 26 = .ok (.aload_n 0, 1) := by decide +kernel
theorem dX10_setting_27 : decode cX10_setting 27 = .ok (.iconst 3, 1) := by decide +kernel
theorem dX10_setting_28 : decode cX10_setting 28 = .ok (.iload_n 1, 1) := by decide +kernel
theorem dX10_setting_29 : decode cX10_setting 29 = .ok (.invokevirtual 183, 3) := by decide +kernel
theorem dX10_setting_32 : decode cX10_setting 32 = .ok (.ireturn, 1) := by decide +kernel
theorem dX10_setting_33 : decode cX10_setting 33 = .ok (.aload_n 0, 1) := by decide +kernel
theorem dX10_setting_34 : decode cX10_setting 34 = .ok (.iconst 1, 1) := by decide +kernel
theorem dX10_setting_35 : decode cX10_setting 35 = .ok (.bipush 8, 2) := by decide +kernel
theorem dX10_setting_37 : decode cX10_setting 37 = .ok (.invokevirtual 195, 3) := by decide +kernel
theorem dX10_setting_40 : decode cX10_setting 40 = .ok (.ifCond .ne 5, 3) := by decide +kernel
theorem dX10_setting_43 : decode cX10_setting 43 = .ok (.iconst 0, 1) := by decide +kernel
theorem dX10_setting_44 : decode cX10_setting 44 = .ok (.ireturn, 1) := by decide +kernel
theorem dX10_setting_45 : decode cX10_setting 45 = .ok (.aload_n 0, 1) := by decide +kernel
theorem dX10_setting_46 : decode cX10_setting 46 = .ok (.aload_n 0, 1) := by decide +kernel
theorem dX10_setting_47 : decode cX10_setting 47 = .ok (.getfield 186, 3) := by decide +kernel
theorem dX10_setting_50 : decode cX10_setting 50 = .ok (.putfield 192, 3) := by decide +kernel
theorem dX10_setting_53 : decode cX10_setting 53 = .ok (.aload_n 0, 1) := by decide +kernel
theorem dX10_setting_54 : decode cX10_setting 54 = .ok (.invokevirtual 198, 3) := by decide +kernel
theorem dX10_setting_57 : decode cX10_setting 57 = .ok (.ireturn, 1) := by decide +kernel
theorem dX10_setting_58 : decode cX10_setting 58 = .ok (.aload_n 0, 1) := by decide +kernel
theorem dX10_setting_59 : decode cX10_setting 59 = .ok (.iconst 0, 1) := by decide +kernel
theorem dX10_setting_60 : decode cX10_setting 60 = .ok (.aload_n 0, 1) := by decide +kernel
theorem dX10_setting_61 : decode cX10_setting 61 = .ok (.getfield 202, 3) := by decide +kernel
theorem dX10_setting_64 : decode cX10_setting 64 = .ok (.iconst 1, 1) := by decide +kernel
theorem dX10_setting_65 : decode cX10_setting 65 = .ok (.isub, 1) := by decide +kernel
theorem dX10_setting_66 : decode cX10_setting 66 = .ok (.invokevirtual 195, 3) := by decide +kernel
theorem dX10_setting_69 : decode cX10_setting 69 = .ok (.ifCond .ne 5, 3) := by decide +kernel
theorem dX10_setting_72 : decode cX10_setting 72 = .ok (.iconst 0, 1) := by decide +kernel
theorem dX10_setting_73 : decode cX10_setting 73 = .ok (.ireturn, 1) := by decide +kernel
theorem dX10_setting_74 : decode cX10_setting 74 = .ok (.aload_n 0, 1) := by decide +kernel
theorem dX10_setting_75 : decode cX10_setting 75 = .ok (.getfield 186, 3) := by decide +kernel
theorem dX10_setting_78 : decode cX10_setting 78 = .ok (.istore_n 3, 1) := by decide +kernel
theorem dX10_setting_79 : decode cX10_setting 79 = .ok (.iload_n 2, 1) := by decide +kernel
theorem dX10_setting_80 : decode cX10_setting 80 = .ok (.iconst 2, 1) := by decide +kernel
theorem dX10_setting_81 : decode cX10_setting 81 = .ok (.if_icmp .ne 12, 3) := by decide +kernel
theorem dX10_setting_84 : decode cX10_setting 84 = .ok (.aload_n 0, 1) := by decide +kernel
theorem dX10_setting_85 : decode cX10_setting 85 = .ok (.getfield 86, 3) := by decide +kernel
theorem dX10_setting_88 : decode cX10_setting 88 = .ok (.iload_n 3, 1) := by decide +kernel
theorem dX10_setting_89 : decode cX10_setting 89 = .ok (.iaload, 1) := by decide +kernel
theorem dX10_setting_90 : decode cX10_setting 90 = .ok (.goto 9, 3) := by decide +kernel
theorem dX10_setting_93 : decode cX10_setting 93 = .ok (.aload_n 0, 1) := by decide +kernel
theorem dX10_setting_94 : decode cX10_setting 94 = .ok (.getfield 89, 3) := by decide +kernel
theorem dX10_setting_97 : decode cX10_setting 97 = .ok (.iload_n 3, 1) := by decide +kernel
theorem dX10_setting_98 : decode cX10_setting 98 = .ok (.iaload, 1) := by decide +kernel
theorem dX10_setting_99 : decode cX10_setting 99 = .ok (.ifCond .le 10, 3) := by decide +kernel
theorem dX10_setting_102 : decode cX10_setting 102 = .ok (.aload_n 0, 1) := by decide +kernel
theorem dX10_setting_103 : decode cX10_setting 103 = .ok (.iconst 3, 1) := by decide +kernel
theorem dX10_setting_104 : decode cX10_setting 104 = .ok (.iload_n 1, 1) := by decide +kernel
theorem dX10_setting_105 : decode cX10_setting 105 = .ok (.invokevirtual 183, 3) := by decide +kernel
theorem dX10_setting_108 : decode cX10_setting 108 = .ok (.ireturn, 1) := by decide +kernel
theorem dX10_setting_109 : decode cX10_setting 109 = .ok (.aload_n 0, 1) := by decide +kernel
theorem dX10_setting_110 : decode cX10_setting 110 = .ok (.iload_n 2, 1) := by decide +kernel
theorem dX10_setting_111 : decode cX10_setting 111 = .ok (.iconst 2, 1) := by decide +kernel
theorem dX10_setting_112 : decode cX10_setting 112 = .ok (.if_icmp .ne 7, 3) := by decide +kernel
theorem dX10_setting_115 : decode cX10_setting 115 = .ok (.iconst 4, 1) := by decide +kernel
theorem dX10_setting_116 : decode cX10_setting 116 = .ok (.goto 4, 3) := by decide +kernel
theorem dX10_setting_119 : decode cX10_setting 119 = .ok (.iconst 1, 1) := by decide +kernel
theorem dX10_setting_120 : decode cX10_setting 120 = .ok (.iload_n 2, 1) := by decide +kernel
theorem dX10_setting_121 : decode cX10_setting 121 = .ok (.iconst 2, 1) := by decide +kernel
theorem dX10_setting_122 : decode cX10_setting 122 = .ok (.if_icmp .ne 8, 3) := by decide +kernel
theorem dX10_setting_125 : decode cX10_setting 125 = .ok (.bipush 40, 2) := by decide +kernel
theorem dX10_setting_127 : decode cX10_setting 127 = .ok (.goto 5, 3) := by decide +kernel
theorem dX10_setting_130 : decode cX10_setting 130 = .ok (.bipush 20, 2) := by decide +kernel
theorem dX10_setting_132 : decode cX10_setting 132 = .ok (.invokevirtual 195, 3) := by decide +kernel
theorem dX10_setting_135 : decode cX10_setting 135 = .ok (.ifCond .ne 5, 3) := by decide +kernel
theorem dX10_setting_138 : decode cX10_setting 138 = .ok (.iconst 0, 1) := by decide +kernel
theorem dX10_setting_139 : decode cX10_setting 139 = .ok (.ireturn, 1) := by decide +kernel
theorem dX10_setting_140 : decode cX10_setting 140 = .ok (.iload_n 2, 1) := by decide +kernel
theorem dX10_setting_141 : decode cX10_setting 141 = .ok (.iconst 2, 1) := by decide +kernel
theorem dX10_setting_142 : decode cX10_setting 142 = .ok (.if_icmp .ne 16, 3) := by decide +kernel
theorem dX10_setting_145 : decode cX10_setting 145 = .ok (.aload_n 0, 1) := by decide +kernel
theorem dX10_setting_146 : decode cX10_setting 146 = .ok (.getfield 86, 3) := by decide +kernel
theorem dX10_setting_149 : decode cX10_setting 149 = .ok (.iload_n 3, 1) := by decide +kernel
theorem dX10_setting_150 : decode cX10_setting 150 = .ok (.aload_n 0, 1) := by decide +kernel
theorem dX10_setting_151 : decode cX10_setting 151 = .ok (.getfield 186, 3) := by decide +kernel
theorem dX10_setting_154 : decode cX10_setting 154 = .ok (.iastore, 1) := by decide +kernel
theorem dX10_setting_155 : decode cX10_setting 155 = .ok (.goto 13, 3) := by decide +kernel
theorem dX10_setting_158 : decode cX10_setting 158 = .ok (.aload_n 0, 1) := by decide +kernel
theorem dX10_setting_159 : decode cX10_setting 159 = .ok (.getfield 89, 3) := by decide +kernel
theorem dX10_setting_162 : decode cX10_setting 162 = .ok (.iload_n 3, 1) := by decide +kernel
theorem dX10_setting_163 : decode cX10_setting 163 = .ok (.aload_n 0, 1) := by decide +kernel
theorem dX10_setting_164 : decode cX10_setting 164 = .ok (.getfield 186, 3) := by decide +kernel
theorem dX10_setting_167 : decode cX10_setting 167 = .ok (.iastore, 1) := by decide +kernel
theorem dX10_setting_168 : decode cX10_setting 168 = .ok (.aload_n 0, 1) := by decide +kernel
theorem dX10_setting_169 : decode cX10_setting 169 = .ok (.invokevirtual 198, 3) := by decide +kernel
theorem dX10_setting_172 : decode cX10_setting 172 = .ok (.ireturn, 1) := by decide +kernel
theorem dX10_bar_0 : decode cX10_bar 0 = .ok (.aload_n 0, 1) := by decide +kernel
theorem dX10_bar_1 : decode cX10_bar 1 = .ok (.getfield 160, 3) := by decide +kernel
theorem dX10_bar_4 : decode cX10_bar 4 = .ok (.istore_n 1, 1) := by decide +kernel
theorem dX10_bar_5 : decode cX10_bar 5 = .ok (.aload_n 0, 1) := by decide +kernel
theorem dX10_bar_6 : decode cX10_bar 6 = .ok (.iconst 1, 1) := by decide +kernel
theorem dX10_bar_7 : decode cX10_bar 7 = .ok (.sipush 999, 3) := by decide +kernel
theorem dX10_bar_10 : decode cX10_bar 10 = .ok (.invokevirtual 195, 3) := by decide +kernel
theorem dX10_bar_13 : decode cX10_bar 13 = .ok (.ifCond .ne 5, 3) := by decide +kernel
theorem dX10_bar_16 : decode cX10_bar 16 = .ok (.iconst 0, 1) := by decide +kernel
theorem dX10_bar_17 : decode cX10_bar 17 = .ok (.ireturn, 1) := by decide +kernel
theorem dX10_bar_18 : decode cX10_bar 18 = .ok (.aload_n 0, 1) := by decide +kernel
theorem dX10_bar_19 : decode cX10_bar 19 = .ok (.getfield 205, 3) := by decide +kernel
theorem dX10_bar_22 : decode cX10_bar 22 = .ok (.ifCond .le 28, 3) := by decide +kernel
theorem dX10_bar_25 : decode cX10_bar 25 = .ok (.aload_n 0, 1) := by decide +kernel
theorem dX10_bar_26 : decode cX10_bar 26 = .ok (.getfield 186, 3) := by decide +kernel
theorem dX10_bar_29 : decode cX10_bar 29 = .ok (.aload_n 0, 1) := by decide +kernel
theorem dX10_bar_30 : decode cX10_bar 30 = .ok (.getfield 92, 3) := by decide +kernel
theorem dX10_bar_33 : decode cX10_bar 33 = .ok (.aload_n 0, 1) := by decide +kernel
theorem dX10_bar_34 : decode cX10_bar 34 = .ok (.getfield 205, 3) := by decide +kernel
theorem dX10_bar_37 : decode cX10_bar 37 = .ok (.iconst 1, 1) := by decide +kernel
theorem dX10_bar_38 : decode cX10_bar 38 = .ok (.isub, 1) := by decide +kernel
theorem dX10_bar_39 : decode cX10_bar 39 = .ok (.iaload, 1) := by decide +kernel
theorem dX10_bar_40 : decode cX10_bar 40 = .ok (.if_icmp .gt 10, 3) := by decide +kernel
theorem dX10_bar_43 : decode cX10_bar 43 = .ok (.aload_n 0, 1) := by decide +kernel
theorem dX10_bar_44 : decode cX10_bar 44 = .ok (.iconst 3, 1) := by decide +kernel
theorem dX10_bar_45 : decode cX10_bar 45 = .ok (.iload_n 1, 1) := by decide +kernel
theorem dX10_bar_46 : decode cX10_bar 46 = .ok (.invokevirtual 183, 3) := by decide +kernel
theorem dX10_bar_49 : decode cX10_bar 49 = .ok (.ireturn, 1) := by decide +kernel
theorem dX10_bar_50 : decode cX10_bar 50 = .ok (.aload_n 0, 1) := by decide +kernel
theorem dX10_bar_51 : decode cX10_bar 51 = .ok (.getfield 92, 3) := by decide +kernel
theorem dX10_bar_54 : decode cX10_bar 54 = .ok (.aload_n 0, 1) := by decide +kernel
theorem dX10_bar_55 : decode cX10_bar 55 = .ok (.getfield 205, 3) := by decide +kernel
theorem dX10_bar_58 : decode cX10_bar 58 = .ok (.aload_n 0, 1) := by decide +kernel
theorem dX10_bar_59 : decode cX10_bar 59 = .ok (.getfield 186, 3) := by decide +kernel
theorem dX10_bar_62 : decode cX10_bar 62 = .ok (.iastore, 1) := by decide +kernel
theorem dX10_bar_63 : decode cX10_bar 63 = .ok (.iconst 1, 1) := by decide +kernel
theorem dX10_bar_64 : decode cX10_bar 64 = .ok (.ireturn, 1) := by decide +kernel
theorem dX10_title_0 : decode cX10_title 0 = .ok (.aload_n 0, 1) := by decide +kernel
theorem dX10_title_1 : decode cX10_title 1 = .ok (.invokevirtual 208, 3) := by decide +kernel
theorem dX10_title_4 : decode cX10_title 4 = .ok (.ifCond .ne 5, 3) := by decide +kernel
theorem dX10_title_7 : decode cX10_title 7 = .ok (.iconst 0, 1) := by decide +kernel
theorem dX10_title_8 : decode cX10_title 8 = .ok (.ireturn, 1) := by decide +kernel
theorem dX10_title_9 : decode cX10_title 9 = .ok (.iconst 0, 1) := by decide +kernel
theorem dX10_title_10 : decode cX10_title 10 = .ok (.istore_n 1, 1) := by decide +kernel
theorem dX10_title_11 : decode cX10_title 11 = .ok (.iconst 1, 1) := by decide +kernel
theorem dX10_title_12 : decode cX10_title 12 = .ok (.istore_n 2, 1) := by decide +kernel
theorem dX10_title_13 : decode cX10_title 13 = .ok (.iload_n 2, 1) := by decide +kernel
theorem dX10_title_14 : decode cX10_title 14 = .ok (.ifCond .eq 140, 3) := by decide +kernel
theorem dX10_title_17 : decode cX10_title 17 = .ok (.aload_n 0, 1) := by decide +kernel
theorem dX10_title_18 : decode cX10_title 18 = .ok (.getfield 163, 3) := by decide +kernel
theorem dX10_title_21 : decode cX10_title 21 = .ok (.iconst 4, 1) := by decide +kernel
theorem dX10_title_22 : decode cX10_title 22 = .ok (.if_icmp .eq 13, 3) := by decide +kernel
theorem dX10_title_25 : decode cX10_title 25 = .ok (.aload_n 0, 1) := by decide +kernel
theorem dX10_title_26 : decode cX10_title 26 = .ok (.iconst 1, 1) := by decide +kernel
theorem dX10_title_27 : decode cX10_title 27 = .ok (.aload_n 0, 1) := by decide +kernel
theorem dX10_title_28 : decode cX10_title 28 = .ok (.getfield 160, 3) := by decide +kernel
theorem dX10_title_31 : decode cX10_title 31 = .ok (.invokevirtual 183, 3) := by decide +kernel
theorem dX10_title_34 : decode cX10_title 34 = .ok (.ireturn, 1) := by decide +kernel
theorem dX10_title_35 : decode cX10_title 35 = .ok (.aload_n 0, 1) := by decide +kernel
theorem dX10_title_36 : decode cX10_title 36 = .ok (.getfield 157, 3) := by decide +kernel
theorem dX10_title_39 : decode cX10_title 39 = .ok (.aload_n 0, 1) := by decide +kernel
theorem dX10_title_40 : decode cX10_title 40 = .ok (.getfield 160, 3) := by decide +kernel
theorem dX10_title_43 : decode cX10_title 43 = .ok (.isub, 1) := by decide +kernel
theorem dX10_title_44 : decode cX10_title 44 = .ok (.iconst 2, 1) := by decide +kernel
theorem dX10_title_45 : decode cX10_title 45 = .ok (.isub, 1) := by decide +kernel
theorem dX10_title_46 : decode cX10_title 46 = .ok (.istore_n 3, 1) := by decide +kernel
theorem dX10_title_47 : decode cX10_title 47 = .ok (.aload_n 0, 1) := by decide +kernel
theorem dX10_title_48 : decode cX10_title 48 = .ok (.aload_n 0, 1) := by decide +kernel
theorem dX10_title_49 : decode cX10_title 49 = .ok (.getfield 160, 3) := by decide +kernel
theorem dX10_title_52 : decode cX10_title 52 = .ok (.iconst 1, 1) := by decide +kernel
theorem dX10_title_53 : decode cX10_title 53 = .ok (.iadd, 1) := by decide +kernel
theorem dX10_title_54 : decode cX10_title 54 = .ok (.iload_n 3, 1) := by decide +kernel
theorem dX10_title_55 : decode cX10_title 55 = .ok (.invokevirtual 211, 3) := by decide +kernel
theorem dX10_title_58 : decode cX10_title 58 = .ok (.ifCond .eq 11, 3) := by decide +kernel
theorem dX10_title_61 : decode cX10_title 61 = .ok (.iload_n 1, 1) := by decide +kernel
theorem dX10_title_62 : decode cX10_title 62 = .ok (.ifCond .ne 17, 3) := by decide +kernel
theorem dX10_title_65 : decode cX10_title 65 = .ok (.iload_n 3, 1) := by decide +kernel
theorem dX10_title_66 : decode cX10_title 66 = .ok (.ifCond .ne 13, 3) := by decide +kernel
theorem dX10_title_69 : decode cX10_title 69 = .ok (.aload_n 0, 1) := by decide +kernel
theorem dX10_title_70 : decode cX10_title 70 = .ok (.iconst 1, 1) := by decide +kernel
theorem dX10_title_71 : decode cX10_title 71 = .ok (.aload_n 0, 1) := by decide +kernel
theorem dX10_title_72 : decode cX10_title 72 = .ok (.getfield 160, 3) := by decide +kernel
theorem dX10_title_75 : decode cX10_title 75 = .ok (.invokevirtual 183, 3) := by decide +kernel
theorem dX10_title_78 : decode cX10_title 78 = .ok (.ireturn, 1) := by decide +kernel
theorem dX10_title_79 : decode cX10_title 79 = .ok (.iload_n 1, 1) := by decide +kernel
theorem dX10_title_80 : decode cX10_title 80 = .ok (.aload_n 0, 1) := by decide +kernel
theorem dX10_title_81 : decode cX10_title 81 = .ok (.getfield 202, 3) := by decide +kernel
theorem dX10_title_84 : decode cX10_title 84 = .ok (.if_icmp .ne 13, 3) := by decide +kernel
theorem dX10_title_87 : decode cX10_title 87 = .ok (.aload_n 0, 1) := by decide +kernel
theorem dX10_title_88 : decode cX10_title 88 = .ok (.iconst 2, 1) := by decide +kernel
theorem dX10_title_89 : decode cX10_title 89 = .ok (.aload_n 0, 1) := by decide +kernel
theorem dX10_title_90 : decode cX10_title 90 = .ok (.getfield 160, 3) := by decide +kernel
theorem dX10_title_93 : decode cX10_title 93 = .ok (.invokevirtual 183, 3) := by decide +kernel
theorem dX10_title_96 : decode cX10_title 96 = .ok (.ireturn, 1) := by decide +kernel
theorem dX10_title_97 : decode cX10_title 97 = .ok (.aload_n 0, 1) := by decide +kernel
theorem dX10_title_98 : decode cX10_title 98 = .ok (.getfield 104, 3) := by decide +kernel
theorem dX10_title_101 : decode cX10_title 101 = .ok (.iconst 4, 1) := by decide +kernel
theorem dX10_title_102 : decode cX10_title 102 = .ok (.aload_n 0, 1) := by decide +kernel
theorem dX10_title_103 : decode cX10_title 103 = .ok (.getfield 214, 3) := by decide +kernel
theorem dX10_title_106 : decode cX10_title 106 = .ok (.imul, 1) := by decide +kernel
theorem dX10_title_107 : decode cX10_title 107 = .ok (.iload_n 1, 1) := by decide +kernel
theorem dX10_title_108 : decode cX10_title 108 = .ok (.iadd, 1) := by decide +kernel
theorem dX10_title_109 : decode cX10_title 109 = .ok (.aload_n 0, 1) := by decide +kernel
theorem dX10_title_110 : decode cX10_title 110 = .ok (.getfield 160, 3) := by decide +kernel
theorem dX10_title_113 : decode cX10_title 113 = .ok (.iconst 1, 1) := by decide +kernel
theorem dX10_title_114 : decode cX10_title 114 = .ok (.iadd, 1) := by decide +kernel
theorem dX10_title_115 : decode cX10_title 115 = .ok (.iastore, 1) := by decide +kernel
theorem dX10_title_116 : decode cX10_title 116 = .ok (.aload_n 0, 1) := by decide +kernel
theorem dX10_title_117 : decode cX10_title 117 = .ok (.getfield 107, 3) := by decide +kernel
theorem dX10_title_120 : decode cX10_title 120 = .ok (.iconst 4, 1) := by decide +kernel
theorem dX10_title_121 : decode cX10_title 121 = .ok (.aload_n 0, 1) := by decide +kernel
theorem dX10_title_122 : decode cX10_title 122 = .ok (.getfield 214, 3) := by decide +kernel
theorem dX10_title_125 : decode cX10_title 125 = .ok (.imul, 1) := by decide +kernel
theorem dX10_title_126 : decode cX10_title 126 = .ok (.iload_n 1, 1) := by decide +kernel
theorem dX10_title_127 : decode cX10_title 127 = .ok (.iadd, 1) := by decide +kernel
theorem dX10_title_128 : decode cX10_title 128 = .ok (.iload_n 3, 1) := by decide +kernel
theorem dX10_title_129 : decode cX10_title 129 = .ok (.iastore, 1) := by decide +kernel
theorem dX10_title_130 : decode cX10_title 130 = .ok (.iinc 1 1, 3) := by decide +kernel
theorem dX10_title_133 : decode cX10_title 133 = .ok (.aload_n 0, 1) := by decide +kernel
theorem dX10_title_134 : decode cX10_title 134 = .ok (.invokevirtual 189, 3) := by decide +kernel
theorem dX10_title_137 : decode cX10_title 137 = .ok (.aload_n 0, 1) := by decide +kernel
theorem dX10_title_138 : decode cX10_title 138 = .ok (.getfield 163, 3) := by decide +kernel
theorem dX10_title_141 : decode cX10_title 141 = .ok (.iconst 4, 1) := by decide +kernel
theorem dX10_title_142 : decode cX10_title 142 = .ok (.if_icmp .ne 7, 3) := by decide +kernel
theorem dX10_title_145 : decode cX10_title 145 = .ok (.iconst 1, 1) := by decide +kernel
theorem dX10_title_146 : decode cX10_title 146 = .ok (.goto 4, 3) := by decide +kernel
theorem dX10_title_149 : decode cX10_title 149 = .ok (.iconst 0, 1) := by decide +kernel
theorem dX10_title_150 : decode cX10_title 150 = .ok (.istore_n 2, 1) := by decide +kernel
theorem dX10_title_151 : decode cX10_title 151 = .ok (.goto (-138), 3) := by decide +kernel
theorem dX10_title_154 : decode cX10_title 154 = .ok (.iload_n 1, 1) := by decide +kernel
theorem dX10_title_155 : decode cX10_title 155 = .ok (.istore_n 3, 1) := by decide +kernel
theorem dX10_title_156 : decode cX10_title 156 = .ok (.iload_n 3, 1) := by decide +kernel
theorem dX10_title_157 : decode cX10_title 157 = .ok (.iconst 4, 1) := by decide +kernel
theorem dX10_title_158 : decode cX10_title 158 = .ok (.if_icmp .ge 23, 3) := by decide +kernel
theorem dX10_title_161 : decode cX10_title 161 = .ok (.aload_n 0, 1) := by decide +kernel
theorem dX10_title_162 : decode cX10_title 162 = .ok (.getfield 107, 3) := by decide +kernel
theorem dX10_title_165 : decode cX10_title 165 = .ok (.iconst 4, 1) := by decide +kernel
theorem dX10_title_166 : decode cX10_title 166 = .ok (.aload_n 0, 1) := by decide +kernel
theorem dX10_title_167 : decode cX10_title 167 = .ok (.getfield 214, 3) := by decide +kernel
theorem dX10_title_170 : decode cX10_title 170 = .ok (.imul, 1) := by decide +kernel
theorem dX10_title_171 : decode cX10_title 171 = .ok (.iload_n 3, 1) := by decide +kernel
theorem dX10_title_172 : decode cX10_title 172 = .ok (.iadd, 1) := by decide +kernel
theorem dX10_title_173 : decode cX10_title 173 = .ok (.iconst 0, 1) := by decide +kernel
theorem dX10_title_174 : decode cX10_title 174 = .ok (.iastore, 1) := by decide +kernel
theorem dX10_title_175 : decode cX10_title 175 = .ok (.iinc 3 1, 3) := by decide +kernel
theorem dX10_title_178 : decode cX10_title 178 = .ok (.goto (-22), 3) := by decide +kernel
theorem dX10_title_181 : decode cX10_title 181 = .ok (.aload_n 0, 1) := by decide +kernel
theorem dX10_title_182 : decode cX10_title 182 = .ok (.getfield 163, 3) := by decide +kernel
theorem dX10_title_185 : decode cX10_title 185 = .ok (.iconst 5, 1) := by decide +kernel
theorem dX10_title_186 : decode cX10_title 186 = .ok (.if_icmp .eq 13, 3) := by decide +kernel
theorem dX10_title_189 : decode cX10_title 189 = .ok (.aload_n 0, 1) := by decide +kernel
theorem dX10_title_190 : decode cX10_title 190 = .ok (.iconst 1, 1) := by decide +kernel
theorem dX10_title_191 : decode cX10_title 191 = .ok (.aload_n 0, 1) := by decide +kernel
theorem dX10_title_192 : decode cX10_title 192 = .ok (.getfield 160, 3) := by decide +kernel
theorem dX10_title_195 : decode cX10_title 195 = .ok (.invokevirtual 183, 3) := by decide +kernel
theorem dX10_title_198 : decode cX10_title 198 = .ok (.ireturn, 1) := by decide +kernel
theorem dX10_title_199 : decode cX10_title 199 = .ok (.iconst (-1), 1) := by decide +kernel
theorem dX10_title_200 : decode cX10_title 200 = .ok (.istore_n 3, 1) := by decide +kernel
theorem dX10_title_201 : decode cX10_title 201 = .ok (.iconst 0, 1) := by decide +kernel
theorem dX10_title_202 : decode cX10_title 202 = .ok (.istore 4, 2) := by decide +kernel
theorem dX10_title_204 : decode cX10_title 204 = .ok (.iload 4, 2) := by decide +kernel
theorem dX10_title_206 : decode cX10_title 206 = .ok (.aload_n 0, 1) := by decide +kernel
theorem dX10_title_207 : decode cX10_title 207 = .ok (.getfield 202, 3) := by decide +kernel
theorem dX10_title_210 : decode cX10_title 210 = .ok (.if_icmp .ge 147, 3) := by decide +kernel
theorem dX10_title_213 : decode cX10_title 213 = .ok (.iconst 4, 1) := by decide +kernel
theorem dX10_title_214 : decode cX10_title 214 = .ok (.aload_n 0, 1) := by decide +kernel
theorem dX10_title_215 : decode cX10_title 215 = .ok (.getfield 214, 3) := by decide +kernel
theorem dX10_title_218 : decode cX10_title 218 = .ok (.imul, 1) := by decide +kernel
theorem dX10_title_219 : decode cX10_title 219 = .ok (.aload_n 0, 1) := by decide +kernel
theorem dX10_title_220 : decode cX10_title 220 = .ok (.getfield 107, 3) := by decide +kernel
theorem dX10_title_223 : decode cX10_title 223 = .ok (.iconst 4, 1) := by decide +kernel
theorem dX10_title_224 : decode cX10_title 224 = .ok (.aload_n 0, 1) := by decide +kernel
theorem dX10_title_225 : decode cX10_title 225 = .ok (.getfield 214, 3) := by decide +kernel
theorem dX10_title_228 : decode cX10_title 228 = .ok (.imul, 1) := by decide +kernel
theorem dX10_title_229 : decode cX10_title 229 = .ok (.iload 4, 2) := by decide +kernel
theorem dX10_title_231 : decode cX10_title 231 = .ok (.iadd, 1) := by decide +kernel
