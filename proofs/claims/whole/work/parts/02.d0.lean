theorem dX0_init_0 : decode cX0_init 0 = .ok (.aload_n 0, 1) := by decide +kernel
theorem dX0_init_1 : decode cX0_init 1 = .ok (.invokespecial 3, 3) := by decide +kernel
theorem dX0_init_4 : decode cX0_init 4 = .ok (.aload_n 0, 1) := by decide +kernel
theorem dX0_init_5 : decode cX0_init 5 = .ok (.sipush 160, 3) := by decide +kernel
theorem dX0_init_8 : decode cX0_init 8 = .ok (.anewarray 9, 3) := by decide +kernel
theorem dX0_init_11 : decode cX0_init 11 = .ok (.putfield 11, 3) := by decide +kernel
theorem dX0_init_14 : decode cX0_init 14 = .ok (.aload_n 0, 1) := by decide +kernel
theorem dX0_init_15 : decode cX0_init 15 = .ok (.new 17, 3) := by decide +kernel
theorem dX0_init_18 : decode cX0_init 18 = .ok (.dup, 1) := by decide +kernel
theorem dX0_init_19 : decode cX0_init 19 = .ok (.invokespecial 19, 3) := by decide +kernel
theorem dX0_init_22 : decode cX0_init 22 = .ok (.putfield 20, 3) := by decide +kernel
theorem dX0_init_25 : decode cX0_init 25 = .ok (.aload_n 0, 1) := by decide +kernel
theorem dX0_init_26 : decode cX0_init 26 = .ok (.aload_n 1, 1) := by decide +kernel
theorem dX0_init_27 : decode cX0_init 27 = .ok (.putfield 24, 3) := by decide +kernel
theorem dX0_init_30 : decode cX0_init 30 = .ok (.aload_n 0, 1) := by decide +kernel
theorem dX0_init_31 : decode cX0_init 31 = .ok (.aload_n 2, 1) := by decide +kernel
theorem dX0_init_32 : decode cX0_init 32 = .ok (.putfield 28, 3) := by decide +kernel
theorem dX0_init_35 : decode cX0_init 35 = .ok (.aload_n 0, 1) := by decide +kernel
theorem dX0_init_36 : decode cX0_init 36 = .ok (.new 9, 3) := by decide +kernel
theorem dX0_init_39 : decode cX0_init 39 = .ok (.dup, 1) := by decide +kernel
theorem dX0_init_40 : decode cX0_init 40 = .ok (.aload_n 2, 1) := by decide +kernel
theorem dX0_init_41 : decode cX0_init 41 = .ok (.invokespecial 32, 3) := by decide +kernel
theorem dX0_init_44 : decode cX0_init 44 = .ok (.putfield 35, 3) := by decide +kernel
theorem dX0_init_47 : decode cX0_init 47 = .ok (.iconst 0, 1) := by decide +kernel
theorem dX0_init_48 : decode cX0_init 48 = .ok (.istore_n 3, 1) := by decide +kernel
theorem dX0_init_49 : decode cX0_init 49 = .ok (.iload_n 3, 1) := by decide +kernel
theorem dX0_init_50 : decode cX0_init 50 = .ok (.aload_n 0, 1) := by decide +kernel
theorem dX0_init_51 : decode cX0_init 51 = .ok (.getfield 11, 3) := by decide +kernel
theorem dX0_init_54 : decode cX0_init 54 = .ok (.arraylength, 1) := by decide +kernel
theorem dX0_init_55 : decode cX0_init 55 = .ok (.if_icmp .ge 23, 3) := by decide +kernel
theorem dX0_init_58 : decode cX0_init 58 = .ok (.aload_n 0, 1) := by decide +kernel
theorem dX0_init_59 : decode cX0_init 59 = .ok (.getfield 11, 3) := by decide +kernel
theorem dX0_init_62 : decode cX0_init 62 = .ok (.iload_n 3, 1) := by decide +kernel
theorem dX0_init_63 : decode cX0_init 63 = .ok (.new 9, 3) := by decide +kernel
theorem dX0_init_66 : decode cX0_init 66 = .ok (.dup, 1) := by decide +kernel
theorem dX0_init_67 : decode cX0_init 67 = .ok (.aload_n 2, 1) := by decide +kernel
theorem dX0_init_68 : decode cX0_init 68 = .ok (.invokespecial 32, 3) := by decide +kernel
theorem dX0_init_71 : decode cX0_init 71 = .ok (.aastore, 1) := by decide +kernel
theorem dX0_init_72 : decode cX0_init 72 = .ok (.iinc 3 1, 3) := by decide +kernel
theorem dX0_init_75 : decode cX0_init 75 = .ok (.goto (-26), 3) := by decide +kernel
theorem dX0_init_78 : decode cX0_init 78 = .ok (.return_, 1) := by decide +kernel
theorem dX0_useScript_0 : decode cX0_useScript 0 = .ok (.aload_n 0, 1) := by decide +kernel
theorem dX0_useScript_1 : decode cX0_useScript 1 = .ok (.aload_n 1, 1) := by decide +kernel
theorem dX0_useScript_2 : decode cX0_useScript 2 = .ok (.putfield 24, 3) := by decide +kernel
theorem dX0_useScript_5 : decode cX0_useScript 5 = .ok (.aload_n 0, 1) := by decide +kernel
theorem dX0_useScript_6 : decode cX0_useScript 6 = .ok (.aload_n 2, 1) := by decide +kernel
theorem dX0_useScript_7 : decode cX0_useScript 7 = .ok (.putfield 28, 3) := by decide +kernel
theorem dX0_useScript_10 : decode cX0_useScript 10 = .ok (.iconst 0, 1) := by decide +kernel
theorem dX0_useScript_11 : decode cX0_useScript 11 = .ok (.istore_n 3, 1) := by decide +kernel
theorem dX0_useScript_12 : decode cX0_useScript 12 = .ok (.iload_n 3, 1) := by decide +kernel
theorem dX0_useScript_13 : decode cX0_useScript 13 = .ok (.aload_n 0, 1) := by decide +kernel
theorem dX0_useScript_14 : decode cX0_useScript 14 = .ok (.getfield 24, 3) := by decide +kernel
theorem dX0_useScript_17 : decode cX0_useScript 17 = .ok (.getfield 39, 3) := by decide +kernel
theorem dX0_useScript_20 : decode cX0_useScript 20 = .ok (.if_icmp .ge 37, 3) := by decide +kernel
theorem dX0_useScript_23 : decode cX0_useScript 23 = .ok (.iconst 0, 1) := by decide +kernel
theorem dX0_useScript_24 : decode cX0_useScript 24 = .ok (.istore 4, 2) := by decide +kernel
theorem dX0_useScript_26 : decode cX0_useScript 26 = .ok (.iload 4, 2) := by decide +kernel
theorem dX0_useScript_28 : decode cX0_useScript 28 = .ok (.aload_n 0, 1) := by decide +kernel
theorem dX0_useScript_29 : decode cX0_useScript 29 = .ok (.getfield 24, 3) := by decide +kernel
theorem dX0_useScript_32 : decode cX0_useScript 32 = .ok (.getfield 45, 3) := by decide +kernel
theorem dX0_useScript_35 : decode cX0_useScript 35 = .ok (.if_icmp .ge 16, 3) := by decide +kernel
theorem dX0_useScript_38 : decode cX0_useScript 38 = .ok (.aload_n 0, 1) := by decide +kernel
theorem dX0_useScript_39 : decode cX0_useScript 39 = .ok (.iload_n 3, 1) := by decide +kernel
theorem dX0_useScript_40 : decode cX0_useScript 40 = .ok (.iload 4, 2) := by decide +kernel
theorem dX0_useScript_42 : decode cX0_useScript 42 = .ok (.invokevirtual 48, 3) := by decide +kernel
theorem dX0_useScript_45 : decode cX0_useScript 45 = .ok (.iinc 4 1, 3) := by decide +kernel
theorem dX0_useScript_48 : decode cX0_useScript 48 = .ok (.goto (-22), 3) := by decide +kernel
theorem dX0_useScript_51 : decode cX0_useScript 51 = .ok (.iinc 3 1, 3) := by decide +kernel
theorem dX0_useScript_54 : decode cX0_useScript 54 = .ok (.goto (-42), 3) := by decide +kernel
theorem dX0_useScript_57 : decode cX0_useScript 57 = .ok (.return_, 1) := by decide +kernel
theorem dX0_restoreAll_0 : decode cX0_restoreAll 0 = .ok (.iconst 0, 1) := by decide +kernel
theorem dX0_restoreAll_1 : decode cX0_restoreAll 1 = .ok (.istore_n 1, 1) := by decide +kernel
theorem dX0_restoreAll_2 : decode cX0_restoreAll 2 = .ok (.iload_n 1, 1) := by decide +kernel
theorem dX0_restoreAll_3 : decode cX0_restoreAll 3 = .ok (.aload_n 0, 1) := by decide +kernel
theorem dX0_restoreAll_4 : decode cX0_restoreAll 4 = .ok (.getfield 24, 3) := by decide +kernel
theorem dX0_restoreAll_7 : decode cX0_restoreAll 7 = .ok (.getfield 39, 3) := by decide +kernel
theorem dX0_restoreAll_10 : decode cX0_restoreAll 10 = .ok (.if_icmp .ge 46, 3) := by decide +kernel
theorem dX0_restoreAll_13 : decode cX0_restoreAll 13 = .ok (.iconst 0, 1) := by decide +kernel
theorem dX0_restoreAll_14 : decode cX0_restoreAll 14 = .ok (.istore_n 2, 1) := by decide +kernel
theorem dX0_restoreAll_15 : decode cX0_restoreAll 15 = .ok (.iload_n 2, 1) := by decide +kernel
theorem dX0_restoreAll_16 : decode cX0_restoreAll 16 = .ok (.aload_n 0, 1) := by decide +kernel
theorem dX0_restoreAll_17 : decode cX0_restoreAll 17 = .ok (.getfield 24, 3) := by decide +kernel
theorem dX0_restoreAll_20 : decode cX0_restoreAll 20 = .ok (.getfield 45, 3) := by decide +kernel
theorem dX0_restoreAll_23 : decode cX0_restoreAll 23 = .ok (.if_icmp .ge 27, 3) := by decide +kernel
theorem dX0_restoreAll_26 : decode cX0_restoreAll 26 = .ok (.aload_n 0, 1) := by decide +kernel
theorem dX0_restoreAll_27 : decode cX0_restoreAll 27 = .ok (.iload_n 1, 1) := by decide +kernel
theorem dX0_restoreAll_28 : decode cX0_restoreAll 28 = .ok (.iload_n 2, 1) := by decide +kernel
theorem dX0_restoreAll_29 : decode cX0_restoreAll 29 = .ok (.invokevirtual 52, 3) := by decide +kernel
theorem dX0_restoreAll_32 : decode cX0_restoreAll 32 = .ok (.getfield 56, 3) := by decide +kernel
theorem dX0_restoreAll_35 : decode cX0_restoreAll 35 = .ok (.ifCond .eq 9, 3) := by decide +kernel
theorem dX0_restoreAll_38 : decode cX0_restoreAll 38 = .ok (.aload_n 0, 1) := by decide +kernel
theorem dX0_restoreAll_39 : decode cX0_restoreAll 39 = .ok (.iload_n 1, 1) := by decide +kernel
theorem dX0_restoreAll_40 : decode cX0_restoreAll 40 = .ok (.iload_n 2, 1) := by decide +kernel
theorem dX0_restoreAll_41 : decode cX0_restoreAll 41 = .ok (.invokevirtual 48, 3) := by decide +kernel
theorem dX0_restoreAll_44 : decode cX0_restoreAll 44 = .ok (.iinc 2 1, 3) := by decide +kernel
theorem dX0_restoreAll_47 : decode cX0_restoreAll 47 = .ok (.goto (-32), 3) := by decide +kernel
theorem dX0_restoreAll_50 : decode cX0_restoreAll 50 = .ok (.iinc 1 1, 3) := by decide +kernel
theorem dX0_restoreAll_53 : decode cX0_restoreAll 53 = .ok (.goto (-51), 3) := by decide +kernel
theorem dX0_restoreAll_56 : decode cX0_restoreAll 56 = .ok (.return_, 1) := by decide +kernel
theorem dX0_restore_0 : decode cX0_restore 0 = .ok (.aload_n 0, 1) := by decide +kernel
theorem dX0_restore_1 : decode cX0_restore 1 = .ok (.iload_n 1, 1) := by decide +kernel
theorem dX0_restore_2 : decode cX0_restore 2 = .ok (.iload_n 2, 1) := by decide +kernel
theorem dX0_restore_3 : decode cX0_restore 3 = .ok (.invokevirtual 60, 3) := by decide +kernel
theorem dX0_restore_6 : decode cX0_restore 6 = .ok (.ifCond .eq 57, 3) := by decide +kernel
theorem dX0_restore_9 : decode cX0_restore 9 = .ok (.aload_n 0, 1) := by decide +kernel
theorem dX0_restore_10 : decode cX0_restore 10 = .ok (.iload_n 1, 1) := by decide +kernel
theorem dX0_restore_11 : decode cX0_restore 11 = .ok (.iload_n 2, 1) := by decide +kernel
theorem dX0_restore_12 : decode cX0_restore 12 = .ok (.invokevirtual 52, 3) := by decide +kernel
theorem dX0_restore_15 : decode cX0_restore 15 = .ok (.astore_n 3, 1) := by decide +kernel
theorem dX0_restore_16 : decode cX0_restore 16 = .ok (.aload_n 0, 1) := by decide +kernel
theorem dX0_restore_17 : decode cX0_restore 17 = .ok (.getfield 24, 3) := by decide +kernel
theorem dX0_restore_20 : decode cX0_restore 20 = .ok (.iload_n 1, 1) := by decide +kernel
theorem dX0_restore_21 : decode cX0_restore 21 = .ok (.iload_n 2, 1) := by decide +kernel
theorem dX0_restore_22 : decode cX0_restore 22 = .ok (.invokevirtual 64, 3) := by decide +kernel
theorem dX0_restore_25 : decode cX0_restore 25 = .ok (.istore 4, 2) := by decide +kernel
theorem dX0_restore_27 : decode cX0_restore 27 = .ok (.aload_n 3, 1) := by decide +kernel
theorem dX0_restore_28 : decode cX0_restore 28 = .ok (.aload_n 0, 1) := by decide +kernel
theorem dX0_restore_29 : decode cX0_restore 29 = .ok (.getfield 28, 3) := by decide +kernel
theorem dX0_restore_32 : decode cX0_restore 32 = .ok (.iload 4, 2) := by decide +kernel
theorem dX0_restore_34 : decode cX0_restore 34 = .ok (.aload_n 0, 1) := by decide +kernel
theorem dX0_restore_35 : decode cX0_restore 35 = .ok (.getfield 24, 3) := by decide +kernel
theorem dX0_restore_38 : decode cX0_restore 38 = .ok (.iload_n 1, 1) := by decide +kernel
theorem dX0_restore_39 : decode cX0_restore 39 = .ok (.iload_n 2, 1) := by decide +kernel
theorem dX0_restore_40 : decode cX0_restore 40 = .ok (.invokevirtual 68, 3) := by decide +kernel
theorem dX0_restore_43 : decode cX0_restore 43 = .ok (.iconst 0, 1) := by decide +kernel
theorem dX0_restore_44 : decode cX0_restore 44 = .ok (.invokevirtual 71, 3) := by decide +kernel
theorem dX0_restore_47 : decode cX0_restore 47 = .ok (.aload_n 0, 1) := by decide +kernel
theorem dX0_restore_48 : decode cX0_restore 48 = .ok (.getfield 20, 3) := by decide +kernel
theorem dX0_restore_51 : decode cX0_restore 51 = .ok (.aload_n 3, 1) := by decide +kernel
theorem dX0_restore_52 : decode cX0_restore 52 = .ok (.aload_n 0, 1) := by decide +kernel
theorem dX0_restore_53 : decode cX0_restore 53 = .ok (.getfield 24, 3) := by decide +kernel
theorem dX0_restore_56 : decode cX0_restore 56 = .ok (.iload_n 2, 1) := by decide +kernel
theorem dX0_restore_57 : decode cX0_restore 57 = .ok (.invokevirtual 75, 3) := by decide +kernel
theorem dX0_restore_60 : decode cX0_restore 60 = .ok (.invokevirtual 79, 3) := by decide +kernel
theorem dX0_restore_63 : decode cX0_restore 63 = .ok (.return_, 1) := by decide +kernel
theorem dX0_replace_0 : decode cX0_replace 0 = .ok (.aload_n 0, 1) := by decide +kernel
theorem dX0_replace_1 : decode cX0_replace 1 = .ok (.iload_n 1, 1) := by decide +kernel
theorem dX0_replace_2 : decode cX0_replace 2 = .ok (.iload_n 2, 1) := by decide +kernel
theorem dX0_replace_3 : decode cX0_replace 3 = .ok (.invokevirtual 60, 3) := by decide +kernel
theorem dX0_replace_6 : decode cX0_replace 6 = .ok (.ifCond .eq 38, 3) := by decide +kernel
theorem dX0_replace_9 : decode cX0_replace 9 = .ok (.aload_n 0, 1) := by decide +kernel
theorem dX0_replace_10 : decode cX0_replace 10 = .ok (.iload_n 1, 1) := by decide +kernel
theorem dX0_replace_11 : decode cX0_replace 11 = .ok (.iload_n 2, 1) := by decide +kernel
theorem dX0_replace_12 : decode cX0_replace 12 = .ok (.invokevirtual 52, 3) := by decide +kernel
theorem dX0_replace_15 : decode cX0_replace 15 = .ok (.astore 4, 2) := by decide +kernel
theorem dX0_replace_17 : decode cX0_replace 17 = .ok (.aload 4, 2) := by decide +kernel
theorem dX0_replace_19 : decode cX0_replace 19 = .ok (.aload_n 3, 1) := by decide +kernel
theorem dX0_replace_20 : decode cX0_replace 20 = .ok (.iconst 0, 1) := by decide +kernel
theorem dX0_replace_21 : decode cX0_replace 21 = .ok (.aload_n 3, 1) := by decide +kernel
theorem dX0_replace_22 : decode cX0_replace 22 = .ok (.arraylength, 1) := by decide +kernel
theorem dX0_replace_23 : decode cX0_replace 23 = .ok (.iconst 1, 1) := by decide +kernel
theorem dX0_replace_24 : decode cX0_replace 24 = .ok (.invokevirtual 71, 3) := by decide +kernel
theorem dX0_replace_27 : decode cX0_replace 27 = .ok (.aload_n 0, 1) := by decide +kernel
theorem dX0_replace_28 : decode cX0_replace 28 = .ok (.getfield 20, 3) := by decide +kernel
theorem dX0_replace_31 : decode cX0_replace 31 = .ok (.aload 4, 2) := by decide +kernel
theorem dX0_replace_33 : decode cX0_replace 33 = .ok (.aload_n 0, 1) := by decide +kernel
theorem dX0_replace_34 : decode cX0_replace 34 = .ok (.getfield 24, 3) := by decide +kernel
theorem dX0_replace_37 : decode cX0_replace 37 = .ok (.iload_n 2, 1) := by decide +kernel
theorem dX0_replace_38 : decode cX0_replace 38 = .ok (.invokevirtual 75, 3) := by decide +kernel
theorem dX0_replace_41 : decode cX0_replace 41 = .ok (.invokevirtual 79, 3) := by decide +kernel
theorem dX0_replace_44 : decode cX0_replace 44 = .ok (.return_, 1) := by decide +kernel
theorem dX0_isThere_0 : decode cX0_isThere 0 = .ok (.aload_n 0, 1) := by decide +kernel
theorem dX0_isThere_1 : decode cX0_isThere 1 = .ok (.getfield 24, 3) := by decide +kernel
theorem dX0_isThere_4 : decode cX0_isThere 4 = .ok (.iload_n 1, 1) := by decide +kernel
theorem dX0_isThere_5 : decode cX0_isThere 5 = .ok (.invokevirtual 83, 3) := by decide +kernel
theorem dX0_isThere_8 : decode cX0_isThere 8 = .ok (.ifCond .eq 18, 3) := by decide +kernel
theorem dX0_isThere_11 : decode cX0_isThere 11 = .ok (.aload_n 0, 1) := by decide +kernel
theorem dX0_isThere_12 : decode cX0_isThere 12 = .ok (.getfield 24, 3) := by decide +kernel
theorem dX0_isThere_15 : decode cX0_isThere 15 = .ok (.iload_n 2, 1) := by decide +kernel
theorem dX0_isThere_16 : decode cX0_isThere 16 = .ok (.invokevirtual 87, 3) := by decide +kernel
theorem dX0_isThere_19 : decode cX0_isThere 19 = .ok (.ifCond .eq 7, 3) := by decide +kernel
theorem dX0_isThere_22 : decode cX0_isThere 22 = .ok (.iconst 1, 1) := by decide +kernel
theorem dX0_isThere_23 : decode cX0_isThere 23 = .ok (.goto 4, 3) := by decide +kernel
theorem dX0_isThere_26 : decode cX0_isThere 26 = .ok (.iconst 0, 1) := by decide +kernel
theorem dX0_isThere_27 : decode cX0_isThere 27 = .ok (.ireturn, 1) := by decide +kernel
theorem dX0_wordingOf_0 : decode cX0_wordingOf 0 = .ok (.aload_n 0, 1) := by decide +kernel
theorem dX0_wordingOf_1 : decode cX0_wordingOf 1 = .ok (.iload_n 1, 1) := by decide +kernel
theorem dX0_wordingOf_2 : decode cX0_wordingOf 2 = .ok (.iload_n 2, 1) := by decide +kernel
theorem dX0_wordingOf_3 : decode cX0_wordingOf 3 = .ok (.invokevirtual 60, 3) := by decide +kernel
theorem dX0_wordingOf_6 : decode cX0_wordingOf 6 = .ok (.ifCond .eq 16, 3) := by decide +kernel
theorem dX0_wordingOf_9 : decode cX0_wordingOf 9 = .ok (.aload_n 0, 1) := by decide +kernel
theorem dX0_wordingOf_10 : decode cX0_wordingOf 10 = .ok (.getfield 11, 3) := by decide +kernel
theorem dX0_wordingOf_13 : decode cX0_wordingOf 13 = .ok (.iload_n 1, 1) := by decide +kernel
theorem dX0_wordingOf_14 : decode cX0_wordingOf 14 = .ok (.iconst 4, 1) := by decide +kernel
theorem dX0_wordingOf_15 : decode cX0_wordingOf 15 = .ok (.imul, 1) := by decide +kernel
theorem dX0_wordingOf_16 : decode cX0_wordingOf 16 = .ok (.iload_n 2, 1) := by decide +kernel
theorem dX0_wordingOf_17 : decode cX0_wordingOf 17 = .ok (.iadd, 1) := by decide +kernel
theorem dX0_wordingOf_18 : decode cX0_wordingOf 18 = .ok (.aaload, 1) := by decide +kernel
theorem dX0_wordingOf_19 : decode cX0_wordingOf 19 = .ok (.goto 7, 3) := by decide +kernel
theorem dX0_wordingOf_22 : decode cX0_wordingOf 22 = .ok (.aload_n 0, 1) := by decide +kernel
theorem dX0_wordingOf_23 : decode cX0_wordingOf 23 = .ok (.getfield 35, 3) := by decide +kernel
theorem dX0_wordingOf_26 : decode cX0_wordingOf 26 = .ok (.areturn, 1) := by decide +kernel
theorem dX0_isChanged_0 : decode cX0_isChanged 0 = .ok (.iconst 0, 1) := by decide +kernel
theorem dX0_isChanged_1 : decode cX0_isChanged 1 = .ok (.istore_n 2, 1) := by decide +kernel
theorem dX0_isChanged_2 : decode cX0_isChanged 2 = .ok (.iload_n 2, 1) := by decide +kernel
theorem dX0_isChanged_3 : decode cX0_isChanged 3 = .ok (.aload_n 0, 1) := by decide +kernel
theorem dX0_isChanged_4 : decode cX0_isChanged 4 = .ok (.getfield 24, 3) := by decide +kernel
theorem dX0_isChanged_7 : decode cX0_isChanged 7 = .ok (.getfield 45, 3) := by decide +kernel
theorem dX0_isChanged_10 : decode cX0_isChanged 10 = .ok (.if_icmp .ge 23, 3) := by decide +kernel
theorem dX0_isChanged_13 : decode cX0_isChanged 13 = .ok (.aload_n 0, 1) := by decide +kernel
theorem dX0_isChanged_14 : decode cX0_isChanged 14 = .ok (.iload_n 1, 1) := by decide +kernel
theorem dX0_isChanged_15 : decode cX0_isChanged 15 = .ok (.iload_n 2, 1) := by decide +kernel
theorem dX0_isChanged_16 : decode cX0_isChanged 16 = .ok (.invokevirtual 52, 3) := by decide +kernel
theorem dX0_isChanged_19 : decode cX0_isChanged 19 = .ok (.getfield 56, 3) := by decide +kernel
theorem dX0_isChanged_22 : decode cX0_isChanged 22 = .ok (.ifCond .eq 5, 3) := by decide +kernel
theorem dX0_isChanged_25 : decode cX0_isChanged 25 = .ok (.iconst 1, 1) := by decide +kernel
theorem dX0_isChanged_26 : decode cX0_isChanged 26 = .ok (.ireturn, 1) := by decide +kernel
theorem dX0_isChanged_27 : decode cX0_isChanged 27 = .ok (.iinc 2 1, 3) := by decide +kernel
theorem dX0_isChanged_30 : decode cX0_isChanged 30 = .ok (.goto (-28), 3) := by decide +kernel
theorem dX0_isChanged_33 : decode cX0_isChanged 33 = .ok (.iconst 0, 1) := by decide +kernel
theorem dX0_isChanged_34 : decode cX0_isChanged 34 = .ok (.ireturn, 1) := by decide +kernel
theorem dX0_stepsOf_0 : decode cX0_stepsOf 0 = .ok (.iconst 0, 1) := by decide +kernel
theorem dX0_stepsOf_1 : decode cX0_stepsOf 1 = .ok (.istore_n 2, 1) := by decide +kernel
theorem dX0_stepsOf_2 : decode cX0_stepsOf 2 = .ok (.iconst 0, 1) := by decide +kernel
theorem dX0_stepsOf_3 : decode cX0_stepsOf 3 = .ok (.istore_n 3, 1) := by decide +kernel
theorem dX0_stepsOf_4 : decode cX0_stepsOf 4 = .ok (.iload_n 3, 1) := by decide +kernel
theorem dX0_stepsOf_5 : decode cX0_stepsOf 5 = .ok (.aload_n 0, 1) := by decide +kernel
theorem dX0_stepsOf_6 : decode cX0_stepsOf 6 = .ok (.getfield 24, 3) := by decide +kernel
theorem dX0_stepsOf_9 : decode cX0_stepsOf 9 = .ok (.getfield 45, 3) := by decide +kernel
theorem dX0_stepsOf_12 : decode cX0_stepsOf 12 = .ok (.if_icmp .ge 23, 3) := by decide +kernel
theorem dX0_stepsOf_15 : decode cX0_stepsOf 15 = .ok (.iload_n 2, 1) := by decide +kernel
theorem dX0_stepsOf_16 : decode cX0_stepsOf 16 = .ok (.aload_n 0, 1) := by decide +kernel
theorem dX0_stepsOf_17 : decode cX0_stepsOf 17 = .ok (.iload_n 1, 1) := by decide +kernel
theorem dX0_stepsOf_18 : decode cX0_stepsOf 18 = .ok (.iload_n 3, 1) := by decide +kernel
theorem dX0_stepsOf_19 : decode cX0_stepsOf 19 = .ok (.invokevirtual 52, 3) := by decide +kernel
theorem dX0_stepsOf_22 : decode cX0_stepsOf 22 = .ok (.getfield 90, 3) := by decide +kernel
theorem dX0_stepsOf_25 : decode cX0_stepsOf 25 = .ok (.invokestatic 93, 3) := by decide +kernel
theorem dX0_stepsOf_28 : decode cX0_stepsOf 28 = .ok (.istore_n 2, 1) := by decide +kernel
theorem dX0_stepsOf_29 : decode cX0_stepsOf 29 = .ok (.iinc 3 1, 3) := by decide +kernel
theorem dX0_stepsOf_32 : decode cX0_stepsOf 32 = .ok (.goto (-28), 3) := by decide +kernel
theorem dX0_stepsOf_35 : decode cX0_stepsOf 35 = .ok (.iload_n 2, 1) := by decide +kernel
theorem dX0_stepsOf_36 : decode cX0_stepsOf 36 = .ok (.ireturn, 1) := by decide +kernel
theorem dX0_stepBehind_0 : decode cX0_stepBehind 0 = .ok (.aload_n 0, 1) := by decide +kernel
theorem dX0_stepBehind_1 : decode cX0_stepBehind 1 = .ok (.iload_n 1, 1) := by decide +kernel
theorem dX0_stepBehind_2 : decode cX0_stepBehind 2 = .ok (.invokevirtual 98, 3) := by decide +kernel
theorem dX0_stepBehind_5 : decode cX0_stepBehind 5 = .ok (.istore 4, 2) := by decide +kernel
theorem dX0_stepBehind_7 : decode cX0_stepBehind 7 = .ok (.iload 4, 2) := by decide +kernel
theorem dX0_stepBehind_9 : decode cX0_stepBehind 9 = .ok (.iconst 1, 1) := by decide +kernel
theorem dX0_stepBehind_10 : decode cX0_stepBehind 10 = .ok (.isub, 1) := by decide +kernel
theorem dX0_stepBehind_11 : decode cX0_stepBehind 11 = .ok (.istore 5, 2) := by decide +kernel
theorem dX0_stepBehind_13 : decode cX0_stepBehind 13 = .ok (.iload 5, 2) := by decide +kernel
theorem dX0_stepBehind_15 : decode cX0_stepBehind 15 = .ok (.ifCond .le 24, 3) := by decide +kernel
theorem dX0_stepBehind_18 : decode cX0_stepBehind 18 = .ok (.iload 5, 2) := by decide +kernel
theorem dX0_stepBehind_20 : decode cX0_stepBehind 20 = .ok (.iload_n 3, 1) := by decide +kernel
theorem dX0_stepBehind_21 : decode cX0_stepBehind 21 = .ok (.iload 4, 2) := by decide +kernel
theorem dX0_stepBehind_23 : decode cX0_stepBehind 23 = .ok (.invokestatic 101, 3) := by decide +kernel
theorem dX0_stepBehind_26 : decode cX0_stepBehind 26 = .ok (.iload_n 2, 1) := by decide +kernel
theorem dX0_stepBehind_27 : decode cX0_stepBehind 27 = .ok (.if_icmp .gt 6, 3) := by decide +kernel
theorem dX0_stepBehind_30 : decode cX0_stepBehind 30 = .ok (.iload 5, 2) := by decide +kernel
theorem dX0_stepBehind_32 : decode cX0_stepBehind 32 = .ok (.ireturn, 1) := by decide +kernel
theorem dX0_stepBehind_33 : decode cX0_stepBehind 33 = .ok (.iinc 5 (-1), 3) := by decide +kernel
theorem dX0_stepBehind_36 : decode cX0_stepBehind 36 = .ok (.goto (-23), 3) := by decide +kernel
theorem dX0_stepBehind_39 : decode cX0_stepBehind 39 = .ok (.iconst 0, 1) := by decide +kernel
theorem dX0_stepBehind_40 : decode cX0_stepBehind 40 = .ok (.ireturn, 1) := by decide +kernel
theorem dX0_pageInStep_0 : decode cX0_pageInStep 0 = .ok (.iload_n 3, 1) := by decide +kernel
theorem dX0_pageInStep_1 : decode cX0_pageInStep 1 = .ok (.aload_n 0, 1) := by decide +kernel
theorem dX0_pageInStep_2 : decode cX0_pageInStep 2 = .ok (.iload_n 1, 1) := by decide +kernel
theorem dX0_pageInStep_3 : decode cX0_pageInStep 3 = .ok (.iload_n 2, 1) := by decide +kernel
theorem dX0_pageInStep_4 : decode cX0_pageInStep 4 = .ok (.invokevirtual 52, 3) := by decide +kernel
theorem dX0_pageInStep_7 : decode cX0_pageInStep 7 = .ok (.getfield 90, 3) := by decide +kernel
theorem dX0_pageInStep_10 : decode cX0_pageInStep 10 = .ok (.aload_n 0, 1) := by decide +kernel
theorem dX0_pageInStep_11 : decode cX0_pageInStep 11 = .ok (.iload_n 1, 1) := by decide +kernel
theorem dX0_pageInStep_12 : decode cX0_pageInStep 12 = .ok (.invokevirtual 98, 3) := by decide +kernel
theorem dX0_pageInStep_15 : decode cX0_pageInStep 15 = .ok (.invokestatic 101, 3) := by decide +kernel
theorem dX0_pageInStep_18 : decode cX0_pageInStep 18 = .ok (.ireturn, 1) := by decide +kernel
theorem dX0_shortOf_0 : decode cX0_shortOf 0 = .ok (.aload_n 0, 1) := by decide +kernel
theorem dX0_shortOf_1 : decode cX0_shortOf 1 = .ok (.iload_n 1, 1) := by decide +kernel
theorem dX0_shortOf_2 : decode cX0_shortOf 2 = .ok (.invokevirtual 98, 3) := by decide +kernel
theorem dX0_shortOf_5 : decode cX0_shortOf 5 = .ok (.istore_n 3, 1) := by decide +kernel
theorem dX0_shortOf_6 : decode cX0_shortOf 6 = .ok (.iconst 0, 1) := by decide +kernel
theorem dX0_shortOf_7 : decode cX0_shortOf 7 = .ok (.istore 4, 2) := by decide +kernel
theorem dX0_shortOf_9 : decode cX0_shortOf 9 = .ok (.iconst 0, 1) := by decide +kernel
theorem dX0_shortOf_10 : decode cX0_shortOf 10 = .ok (.istore 5, 2) := by decide +kernel
theorem dX0_shortOf_12 : decode cX0_shortOf 12 = .ok (.iload 5, 2) := by decide +kernel
theorem dX0_shortOf_14 : decode cX0_shortOf 14 = .ok (.aload_n 0, 1) := by decide +kernel
theorem dX0_shortOf_15 : decode cX0_shortOf 15 = .ok (.getfield 24, 3) := by decide +kernel
theorem dX0_shortOf_18 : decode cX0_shortOf 18 = .ok (.getfield 45, 3) := by decide +kernel
theorem dX0_shortOf_21 : decode cX0_shortOf 21 = .ok (.if_icmp .ge 102, 3) := by decide +kernel
theorem dX0_shortOf_24 : decode cX0_shortOf 24 = .ok (.aload_n 0, 1) := by decide +kernel
theorem dX0_shortOf_25 : decode cX0_shortOf 25 = .ok (.iload_n 1, 1) := by decide +kernel
theorem dX0_shortOf_26 : decode cX0_shortOf 26 = .ok (.iload 5, 2) := by decide +kernel
theorem dX0_shortOf_28 : decode cX0_shortOf 28 = .ok (.invokevirtual 52, 3) := by decide +kernel
theorem dX0_shortOf_31 : decode cX0_shortOf 31 = .ok (.astore 6, 2) := by decide +kernel
theorem dX0_shortOf_33 : decode cX0_shortOf 33 = .ok (.aload_n 0, 1) := by decide +kernel
theorem dX0_shortOf_34 : decode cX0_shortOf 34 = .ok (.getfield 24, 3) := by decide +kernel
theorem dX0_shortOf_37 : decode cX0_shortOf 37 = .ok (.iload 5, 2) := by decide +kernel
theorem dX0_shortOf_39 : decode cX0_shortOf 39 = .ok (.invokevirtual 105, 3) := by decide +kernel
theorem dX0_shortOf_42 : decode cX0_shortOf 42 = .ok (.istore 7, 2) := by decide +kernel
theorem dX0_shortOf_44 : decode cX0_shortOf 44 = .ok (.iconst 0, 1) := by decide +kernel
theorem dX0_shortOf_45 : decode cX0_shortOf 45 = .ok (.istore 8, 2) := by decide +kernel
theorem dX0_shortOf_47 : decode cX0_shortOf 47 = .ok (.iload 8, 2) := by decide +kernel
theorem dX0_shortOf_49 : decode cX0_shortOf 49 = .ok (.aload 6, 2) := by decide +kernel
theorem dX0_shortOf_51 : decode cX0_shortOf 51 = .ok (.getfield 90, 3) := by decide +kernel
theorem dX0_shortOf_54 : decode cX0_shortOf 54 = .ok (.if_icmp .ge 63, 3) := by decide +kernel
theorem dX0_shortOf_57 : decode cX0_shortOf 57 = .ok (.iconst 1, 1) := by decide +kernel
theorem dX0_shortOf_58 : decode cX0_shortOf 58 = .ok (.aload 6, 2) := by decide +kernel
theorem dX0_shortOf_60 : decode cX0_shortOf 60 = .ok (.iload 8, 2) := by decide +kernel
theorem dX0_shortOf_62 : decode cX0_shortOf 62 = .ok (.invokevirtual 108, 3) := by decide +kernel
theorem dX0_shortOf_65 : decode cX0_shortOf 65 = .ok (.iload 7, 2) := by decide +kernel
theorem dX0_shortOf_67 : decode cX0_shortOf 67 = .ok (.iadd, 1) := by decide +kernel
theorem dX0_shortOf_68 : decode cX0_shortOf 68 = .ok (.iconst 1, 1) := by decide +kernel
theorem dX0_shortOf_69 : decode cX0_shortOf 69 = .ok (.isub, 1) := by decide +kernel
theorem dX0_shortOf_70 : decode cX0_shortOf 70 = .ok (.iload 7, 2) := by decide +kernel
theorem dX0_shortOf_72 : decode cX0_shortOf 72 = .ok (.invokestatic 101, 3) := by decide +kernel
theorem dX0_shortOf_75 : decode cX0_shortOf 75 = .ok (.istore 9, 2) := by decide +kernel
theorem dX0_shortOf_77 : decode cX0_shortOf 77 = .ok (.aload_n 0, 1) := by decide +kernel
theorem dX0_shortOf_78 : decode cX0_shortOf 78 = .ok (.getfield 24, 3) := by decide +kernel
theorem dX0_shortOf_81 : decode cX0_shortOf 81 = .ok (.invokevirtual 111, 3) := by decide +kernel
theorem dX0_shortOf_84 : decode cX0_shortOf 84 = .ok (.iload 8, 2) := by decide +kernel
theorem dX0_shortOf_86 : decode cX0_shortOf 86 = .ok (.aload 6, 2) := by decide +kernel
theorem dX0_shortOf_88 : decode cX0_shortOf 88 = .ok (.getfield 90, 3) := by decide +kernel
theorem dX0_shortOf_91 : decode cX0_shortOf 91 = .ok (.iload_n 3, 1) := by decide +kernel
theorem dX0_shortOf_92 : decode cX0_shortOf 92 = .ok (.iload_n 2, 1) := by decide +kernel
theorem dX0_shortOf_93 : decode cX0_shortOf 93 = .ok (.invokestatic 115, 3) := by decide +kernel
theorem dX0_shortOf_96 : decode cX0_shortOf 96 = .ok (.imul, 1) := by decide +kernel
theorem dX0_shortOf_97 : decode cX0_shortOf 97 = .ok (.istore 10, 2) := by decide +kernel
theorem dX0_shortOf_99 : decode cX0_shortOf 99 = .ok (.iload 4, 2) := by decide +kernel
theorem dX0_shortOf_101 : decode cX0_shortOf 101 = .ok (.iload 9, 2) := by decide +kernel
theorem dX0_shortOf_103 : decode cX0_shortOf 103 = .ok (.iload 10, 2) := by decide +kernel
theorem dX0_shortOf_105 : decode cX0_shortOf 105 = .ok (.isub, 1) := by decide +kernel
theorem dX0_shortOf_106 : decode cX0_shortOf 106 = .ok (.invokestatic 93, 3) := by decide +kernel
theorem dX0_shortOf_109 : decode cX0_shortOf 109 = .ok (.istore 4, 2) := by decide +kernel
theorem dX0_shortOf_111 : decode cX0_shortOf 111 = .ok (.iinc 8 1, 3) := by decide +kernel
theorem dX0_shortOf_114 : decode cX0_shortOf 114 = .ok (.goto (-67), 3) := by decide +kernel
theorem dX0_shortOf_117 : decode cX0_shortOf 117 = .ok (.iinc 5 1, 3) := by decide +kernel
theorem dX0_shortOf_120 : decode cX0_shortOf 120 = .ok (.goto (-108), 3) := by decide +kernel
theorem dX0_shortOf_123 : decode cX0_shortOf 123 = .ok (.iload 4, 2) := by decide +kernel
theorem dX0_shortOf_125 : decode cX0_shortOf 125 = .ok (.ireturn, 1) := by decide +kernel
theorem dX0_barsOfPage_0 : decode cX0_barsOfPage 0 = .ok (.iconst 0, 1) := by decide +kernel
theorem dX0_barsOfPage_1 : decode cX0_barsOfPage 1 = .ok (.istore 4, 2) := by decide +kernel
theorem dX0_barsOfPage_3 : decode cX0_barsOfPage 3 = .ok (.iconst 0, 1) := by decide +kernel
theorem dX0_barsOfPage_4 : decode cX0_barsOfPage 4 = .ok (.istore 5, 2) := by decide +kernel
theorem dX0_barsOfPage_6 : decode cX0_barsOfPage 6 = .ok (.iload 5, 2) := by decide +kernel
theorem dX0_barsOfPage_8 : decode cX0_barsOfPage 8 = .ok (.iload_n 2, 1) := by decide +kernel
theorem dX0_barsOfPage_9 : decode cX0_barsOfPage 9 = .ok (.if_icmp .ge 42, 3) := by decide +kernel
theorem dX0_barsOfPage_12 : decode cX0_barsOfPage 12 = .ok (.iload 5, 2) := by decide +kernel
theorem dX0_barsOfPage_14 : decode cX0_barsOfPage 14 = .ok (.iload_n 1, 1) := by decide +kernel
theorem dX0_barsOfPage_15 : decode cX0_barsOfPage 15 = .ok (.iload_n 2, 1) := by decide +kernel
theorem dX0_barsOfPage_16 : decode cX0_barsOfPage 16 = .ok (.invokestatic 101, 3) := by decide +kernel
theorem dX0_barsOfPage_19 : decode cX0_barsOfPage 19 = .ok (.iload_n 0, 1) := by decide +kernel
theorem dX0_barsOfPage_20 : decode cX0_barsOfPage 20 = .ok (.if_icmp .ne 25, 3) := by decide +kernel
theorem dX0_barsOfPage_23 : decode cX0_barsOfPage 23 = .ok (.iload 4, 2) := by decide +kernel
theorem dX0_barsOfPage_25 : decode cX0_barsOfPage 25 = .ok (.iload 5, 2) := by decide +kernel
theorem dX0_barsOfPage_27 : decode cX0_barsOfPage 27 = .ok (.iconst 1, 1) := by decide +kernel
theorem dX0_barsOfPage_28 : decode cX0_barsOfPage 28 = .ok (.iadd, 1) := by decide +kernel
theorem dX0_barsOfPage_29 : decode cX0_barsOfPage 29 = .ok (.iload_n 3, 1) := by decide +kernel
theorem dX0_barsOfPage_30 : decode cX0_barsOfPage 30 = .ok (.iload_n 2, 1) := by decide +kernel
theorem dX0_barsOfPage_31 : decode cX0_barsOfPage 31 = .ok (.invokestatic 101, 3) := by decide +kernel
theorem dX0_barsOfPage_34 : decode cX0_barsOfPage 34 = .ok (.iload 5, 2) := by decide +kernel
theorem dX0_barsOfPage_36 : decode cX0_barsOfPage 36 = .ok (.iload_n 3, 1) := by decide +kernel
theorem dX0_barsOfPage_37 : decode cX0_barsOfPage 37 = .ok (.iload_n 2, 1) := by decide +kernel
theorem dX0_barsOfPage_38 : decode cX0_barsOfPage 38 = .ok (.invokestatic 101, 3) := by decide +kernel
theorem dX0_barsOfPage_41 : decode cX0_barsOfPage 41 = .ok (.isub, 1) := by decide +kernel
theorem dX0_barsOfPage_42 : decode cX0_barsOfPage 42 = .ok (.iadd, 1) := by decide +kernel
theorem dX0_barsOfPage_43 : decode cX0_barsOfPage 43 = .ok (.istore 4, 2) := by decide +kernel
theorem dX0_barsOfPage_45 : decode cX0_barsOfPage 45 = .ok (.iinc 5 1, 3) := by decide +kernel
theorem dX0_barsOfPage_48 : decode cX0_barsOfPage 48 = .ok (.goto (-42), 3) := by decide +kernel
theorem dX0_barsOfPage_51 : decode cX0_barsOfPage 51 = .ok (.iload 4, 2) := by decide +kernel
theorem dX0_barsOfPage_53 : decode cX0_barsOfPage 53 = .ok (.ireturn, 1) := by decide +kernel
theorem dX1_init_0 : decode cX1_init 0 = .ok (.aload_n 0, 1) := by decide +kernel
theorem dX1_init_1 : decode cX1_init 1 = .ok (.invokespecial 3, 3) := by decide +kernel
theorem dX1_init_4 : decode cX1_init 4 = .ok (.aload_n 0, 1) := by decide +kernel
theorem dX1_init_5 : decode cX1_init 5 = .ok (.sipush 240, 3) := by decide +kernel
theorem dX1_init_8 : decode cX1_init 8 = .ok (.newarray .int, 2) := by decide +kernel
theorem dX1_init_10 : decode cX1_init 10 = .ok (.putfield 9, 3) := by decide +kernel
theorem dX1_init_13 : decode cX1_init 13 = .ok (.aload_n 0, 1) := by decide +kernel
theorem dX1_init_14 : decode cX1_init 14 = .ok (.sipush 240, 3) := by decide +kernel
theorem dX1_init_17 : decode cX1_init 17 = .ok (.newarray .int, 2) := by decide +kernel
theorem dX1_init_19 : decode cX1_init 19 = .ok (.putfield 15, 3) := by decide +kernel
theorem dX1_init_22 : decode cX1_init 22 = .ok (.aload_n 0, 1) := by decide +kernel
theorem dX1_init_23 : decode cX1_init 23 = .ok (.sipush 241, 3) := by decide +kernel
theorem dX1_init_26 : decode cX1_init 26 = .ok (.newarray .int, 2) := by decide +kernel
theorem dX1_init_28 : decode cX1_init 28 = .ok (.putfield 18, 3) := by decide +kernel
theorem dX1_init_31 : decode cX1_init 31 = .ok (.aload_n 0, 1) := by decide +kernel
theorem dX1_init_32 : decode cX1_init 32 = .ok (.sipush 241, 3) := by decide +kernel
theorem dX1_init_35 : decode cX1_init 35 = .ok (.newarray .int, 2) := by decide +kernel
theorem dX1_init_37 : decode cX1_init 37 = .ok (.putfield 21, 3) := by decide +kernel
theorem dX1_init_40 : decode cX1_init 40 = .ok (.aload_n 0, 1) := by decide +kernel
theorem dX1_init_41 : decode cX1_init 41 = .ok (.bipush 13, 2) := by decide +kernel
theorem dX1_init_43 : decode cX1_init 43 = .ok (.newarray .int, 2) := by decide +kernel
theorem dX1_init_45 : decode cX1_init 45 = .ok (.putfield 24, 3) := by decide +kernel
theorem dX1_init_48 : decode cX1_init 48 = .ok (.aload_n 0, 1) := by decide +kernel
theorem dX1_init_49 : decode cX1_init 49 = .ok (.bipush 13, 2) := by decide +kernel
theorem dX1_init_51 : decode cX1_init 51 = .ok (.sipush 241, 3) := by decide +kernel
theorem dX1_init_54 : decode cX1_init 54 = .ok (.multianewarray 27 2, 4) := by decide +kernel
theorem dX1_init_58 : decode cX1_init 58 = .ok (.putfield 29, 3) := by decide +kernel
theorem dX1_init_61 : decode cX1_init 61 = .ok (.return_, 1) := by decide +kernel
theorem dX1_layOut_0 : decode cX1_layOut 0 = .ok (.aload_n 0, 1) := by decide +kernel
theorem dX1_layOut_1 : decode cX1_layOut 1 = .ok (.iload_n 2, 1) := by decide +kernel
theorem dX1_layOut_2 : decode cX1_layOut 2 = .ok (.putfield 32, 3) := by decide +kernel
theorem dX1_layOut_5 : decode cX1_layOut 5 = .ok (.aload_n 0, 1) := by decide +kernel
theorem dX1_layOut_6 : decode cX1_layOut 6 = .ok (.aload_n 1, 1) := by decide +kernel
theorem dX1_layOut_7 : decode cX1_layOut 7 = .ok (.invokevirtual 36, 3) := by decide +kernel
theorem dX1_layOut_10 : decode cX1_layOut 10 = .ok (.aload_n 0, 1) := by decide +kernel
theorem dX1_layOut_11 : decode cX1_layOut 11 = .ok (.invokevirtual 40, 3) := by decide +kernel
theorem dX1_layOut_14 : decode cX1_layOut 14 = .ok (.aload_n 0, 1) := by decide +kernel
theorem dX1_layOut_15 : decode cX1_layOut 15 = .ok (.getfield 21, 3) := by decide +kernel
theorem dX1_layOut_18 : decode cX1_layOut 18 = .ok (.iconst 0, 1) := by decide +kernel
theorem dX1_layOut_19 : decode cX1_layOut 19 = .ok (.iaload, 1) := by decide +kernel
theorem dX1_layOut_20 : decode cX1_layOut 20 = .ok (.iconst 2, 1) := by decide +kernel
theorem dX1_layOut_21 : decode cX1_layOut 21 = .ok (.iadd, 1) := by decide +kernel
theorem dX1_layOut_22 : decode cX1_layOut 22 = .ok (.iconst 1, 1) := by decide +kernel
theorem dX1_layOut_23 : decode cX1_layOut 23 = .ok (.isub, 1) := by decide +kernel
theorem dX1_layOut_24 : decode cX1_layOut 24 = .ok (.iconst 2, 1) := by decide +kernel
theorem dX1_layOut_25 : decode cX1_layOut 25 = .ok (.idiv, 1) := by decide +kernel
theorem dX1_layOut_26 : decode cX1_layOut 26 = .ok (.istore_n 3, 1) := by decide +kernel
theorem dX1_layOut_27 : decode cX1_layOut 27 = .ok (.aload_n 0, 1) := by decide +kernel
theorem dX1_layOut_28 : decode cX1_layOut 28 = .ok (.bipush 12, 2) := by decide +kernel
theorem dX1_layOut_30 : decode cX1_layOut 30 = .ok (.iload_n 3, 1) := by decide +kernel
theorem dX1_layOut_31 : decode cX1_layOut 31 = .ok (.iconst 2, 1) := by decide +kernel
theorem dX1_layOut_32 : decode cX1_layOut 32 = .ok (.imul, 1) := by decide +kernel
theorem dX1_layOut_33 : decode cX1_layOut 33 = .ok (.invokestatic 43, 3) := by decide +kernel
theorem dX1_layOut_36 : decode cX1_layOut 36 = .ok (.putfield 49, 3) := by decide +kernel
theorem dX1_layOut_39 : decode cX1_layOut 39 = .ok (.aload_n 0, 1) := by decide +kernel
theorem dX1_layOut_40 : decode cX1_layOut 40 = .ok (.invokevirtual 52, 3) := by decide +kernel
theorem dX1_layOut_43 : decode cX1_layOut 43 = .ok (.aload_n 0, 1) := by decide +kernel
theorem dX1_layOut_44 : decode cX1_layOut 44 = .ok (.invokevirtual 55, 3) := by decide +kernel
theorem dX1_layOut_47 : decode cX1_layOut 47 = .ok (.aload_n 0, 1) := by decide +kernel
theorem dX1_layOut_48 : decode cX1_layOut 48 = .ok (.aload_n 1, 1) := by decide +kernel
theorem dX1_layOut_49 : decode cX1_layOut 49 = .ok (.invokevirtual 58, 3) := by decide +kernel
theorem dX1_layOut_52 : decode cX1_layOut 52 = .ok (.return_, 1) := by decide +kernel
theorem dX1_findWords_0 : decode cX1_findWords 0 = .ok (.aload_n 0, 1) := by decide +kernel
theorem dX1_findWords_1 : decode cX1_findWords 1 = .ok (.iconst 0, 1) := by decide +kernel
theorem dX1_findWords_2 : decode cX1_findWords 2 = .ok (.putfield 61, 3) := by decide +kernel
theorem dX1_findWords_5 : decode cX1_findWords 5 = .ok (.iconst 0, 1) := by decide +kernel
theorem dX1_findWords_6 : decode cX1_findWords 6 = .ok (.istore_n 2, 1) := by decide +kernel
theorem dX1_findWords_7 : decode cX1_findWords 7 = .ok (.iconst 0, 1) := by decide +kernel
theorem dX1_findWords_8 : decode cX1_findWords 8 = .ok (.istore_n 3, 1) := by decide +kernel
theorem dX1_findWords_9 : decode cX1_findWords 9 = .ok (.iload_n 3, 1) := by decide +kernel
theorem dX1_findWords_10 : decode cX1_findWords 10 = .ok (.aload_n 1, 1) := by decide +kernel
theorem dX1_findWords_11 : decode cX1_findWords 11 = .ok (.getfield 64, 3) := by decide +kernel
theorem dX1_findWords_14 : decode cX1_findWords 14 = .ok (.if_icmp .gt 108, 3) := by decide +kernel
theorem dX1_findWords_17 : decode cX1_findWords 17 = .ok (.aload_n 0, 1) := by decide +kernel
theorem dX1_findWords_18 : decode cX1_findWords 18 = .ok (.getfield 61, 3) := by decide +kernel
theorem dX1_findWords_21 : decode cX1_findWords 21 = .ok (.sipush 240, 3) := by decide +kernel
theorem dX1_findWords_24 : decode cX1_findWords 24 = .ok (.if_icmp .ge 98, 3) := by decide +kernel
theorem dX1_findWords_27 : decode cX1_findWords 27 = .ok (.aload_n 1, 1) := by decide +kernel
theorem dX1_findWords_28 : decode cX1_findWords 28 = .ok (.getfield 69, 3) := by decide +kernel
theorem dX1_findWords_31 : decode cX1_findWords 31 = .ok (.iload_n 3, 1) := by decide +kernel
theorem dX1_findWords_32 : decode cX1_findWords 32 = .ok (.iadd, 1) := by decide +kernel
theorem dX1_findWords_33 : decode cX1_findWords 33 = .ok (.istore 4, 2) := by decide +kernel
theorem dX1_findWords_35 : decode cX1_findWords 35 = .ok (.iload_n 3, 1) := by decide +kernel
theorem dX1_findWords_36 : decode cX1_findWords 36 = .ok (.aload_n 1, 1) := by decide +kernel
theorem dX1_findWords_37 : decode cX1_findWords 37 = .ok (.getfield 64, 3) := by decide +kernel
theorem dX1_findWords_40 : decode cX1_findWords 40 = .ok (.if_icmp .ge 22, 3) := by decide +kernel
theorem dX1_findWords_43 : decode cX1_findWords 43 = .ok (.iload 4, 2) := by decide +kernel
theorem dX1_findWords_45 : decode cX1_findWords 45 = .ok (.ifCond .lt 17, 3) := by decide +kernel
theorem dX1_findWords_48 : decode cX1_findWords 48 = .ok (.iload 4, 2) := by decide +kernel
theorem dX1_findWords_50 : decode cX1_findWords 50 = .ok (.aload_n 1, 1) := by decide +kernel
theorem dX1_findWords_51 : decode cX1_findWords 51 = .ok (.getfield 72, 3) := by decide +kernel
theorem dX1_findWords_54 : decode cX1_findWords 54 = .ok (.arraylength, 1) := by decide +kernel
theorem dX1_findWords_55 : decode cX1_findWords 55 = .ok (.if_icmp .ge 7, 3) := by decide +kernel
theorem dX1_findWords_58 : decode cX1_findWords 58 = .ok (.iconst 1, 1) := by decide +kernel
theorem dX1_findWords_59 : decode cX1_findWords 59 = .ok (.goto 4, 3) := by decide +kernel
theorem dX1_findWords_62 : decode cX1_findWords 62 = .ok (.iconst 0, 1) := by decide +kernel
theorem dX1_findWords_63 : decode cX1_findWords 63 = .ok (.istore 5, 2) := by decide +kernel
theorem dX1_findWords_65 : decode cX1_findWords 65 = .ok (.iload 5, 2) := by decide +kernel
theorem dX1_findWords_67 : decode cX1_findWords 67 = .ok (.ifCond .eq 15, 3) := by decide +kernel
theorem dX1_findWords_70 : decode cX1_findWords 70 = .ok (.aload_n 1, 1) := by decide +kernel
theorem dX1_findWords_71 : decode cX1_findWords 71 = .ok (.getfield 72, 3) := by decide +kernel
theorem dX1_findWords_74 : decode cX1_findWords 74 = .ok (.iload 4, 2) := by decide +kernel
theorem dX1_findWords_76 : decode cX1_findWords 76 = .ok (.baload, 1) := by decide +kernel
theorem dX1_findWords_77 : decode cX1_findWords 77 = .ok (.bipush 32, 2) := by decide +kernel
theorem dX1_findWords_79 : decode cX1_findWords 79 = .ok (.if_icmp .ne 37, 3) := by decide +kernel
theorem dX1_findWords_82 : decode cX1_findWords 82 = .ok (.aload_n 0, 1) := by decide +kernel
theorem dX1_findWords_83 : decode cX1_findWords 83 = .ok (.getfield 9, 3) := by decide +kernel
theorem dX1_findWords_86 : decode cX1_findWords 86 = .ok (.aload_n 0, 1) := by decide +kernel
theorem dX1_findWords_87 : decode cX1_findWords 87 = .ok (.getfield 61, 3) := by decide +kernel
theorem dX1_findWords_90 : decode cX1_findWords 90 = .ok (.iload_n 2, 1) := by decide +kernel
theorem dX1_findWords_91 : decode cX1_findWords 91 = .ok (.iastore, 1) := by decide +kernel
theorem dX1_findWords_92 : decode cX1_findWords 92 = .ok (.aload_n 0, 1) := by decide +kernel
theorem dX1_findWords_93 : decode cX1_findWords 93 = .ok (.getfield 15, 3) := by decide +kernel
theorem dX1_findWords_96 : decode cX1_findWords 96 = .ok (.aload_n 0, 1) := by decide +kernel
theorem dX1_findWords_97 : decode cX1_findWords 97 = .ok (.getfield 61, 3) := by decide +kernel
theorem dX1_findWords_100 : decode cX1_findWords 100 = .ok (.iload_n 3, 1) := by decide +kernel
theorem dX1_findWords_101 : decode cX1_findWords 101 = .ok (.iastore, 1) := by decide +kernel
theorem dX1_findWords_102 : decode cX1_findWords 102 = .ok (.aload_n 0, 1) := by decide +kernel
theorem dX1_findWords_103 : decode cX1_findWords 103 = .ok (.dup, 1) := by decide +kernel
theorem dX1_findWords_104 : decode cX1_findWords 104 = .ok (.getfield 61, 3) := by decide +kernel
theorem dX1_findWords_107 : decode cX1_findWords 107 = .ok (.iconst 1, 1) := by decide +kernel
theorem dX1_findWords_108 : decode cX1_findWords 108 = .ok (.iadd, 1) := by decide +kernel
theorem dX1_findWords_109 : decode cX1_findWords 109 = .ok (.putfield 61, 3) := by decide +kernel
theorem dX1_findWords_112 : decode cX1_findWords 112 = .ok (.iload_n 3, 1) := by decide +kernel
theorem dX1_findWords_113 : decode cX1_findWords 113 = .ok (.iconst 1, 1) := by decide +kernel
theorem dX1_findWords_114 : decode cX1_findWords 114 = .ok (.iadd, 1) := by decide +kernel
theorem dX1_findWords_115 : decode cX1_findWords 115 = .ok (.istore_n 2, 1) := by decide +kernel
theorem dX1_findWords_116 : decode cX1_findWords 116 = .ok (.iinc 3 1, 3) := by decide +kernel
theorem dX1_findWords_119 : decode cX1_findWords 119 = .ok (.goto (-110), 3) := by decide +kernel
theorem dX1_findWords_122 : decode cX1_findWords 122 = .ok (.return_, 1) := by decide +kernel
theorem dX1_fillRows_0 : decode cX1_fillRows 0 = .ok (.aload_n 0, 1) := by decide +kernel
theorem dX1_fillRows_1 : decode cX1_fillRows 1 = .ok (.getfield 18, 3) := by decide +kernel
theorem dX1_fillRows_4 : decode cX1_fillRows 4 = .ok (.aload_n 0, 1) := by decide +kernel
theorem dX1_fillRows_5 : decode cX1_fillRows 5 = .ok (.getfield 61, 3) := by decide +kernel
theorem dX1_fillRows_8 : decode cX1_fillRows 8 = .ok (.aload_n 0, 1) := by decide +kernel
theorem dX1_fillRows_9 : decode cX1_fillRows 9 = .ok (.getfield 61, 3) := by decide +kernel
theorem dX1_fillRows_12 : decode cX1_fillRows 12 = .ok (.iastore, 1) := by decide +kernel
theorem dX1_fillRows_13 : decode cX1_fillRows 13 = .ok (.aload_n 0, 1) := by decide +kernel
theorem dX1_fillRows_14 : decode cX1_fillRows 14 = .ok (.getfield 21, 3) := by decide +kernel
theorem dX1_fillRows_17 : decode cX1_fillRows 17 = .ok (.aload_n 0, 1) := by decide +kernel
theorem dX1_fillRows_18 : decode cX1_fillRows 18 = .ok (.getfield 61, 3) := by decide +kernel
theorem dX1_fillRows_21 : decode cX1_fillRows 21 = .ok (.iconst 0, 1) := by decide +kernel
theorem dX1_fillRows_22 : decode cX1_fillRows 22 = .ok (.iastore, 1) := by decide +kernel
theorem dX1_fillRows_23 : decode cX1_fillRows 23 = .ok (.aload_n 0, 1) := by decide +kernel
theorem dX1_fillRows_24 : decode cX1_fillRows 24 = .ok (.getfield 61, 3) := by decide +kernel
theorem dX1_fillRows_27 : decode cX1_fillRows 27 = .ok (.iconst 1, 1) := by decide +kernel
theorem dX1_fillRows_28 : decode cX1_fillRows 28 = .ok (.isub, 1) := by decide +kernel
theorem dX1_fillRows_29 : decode cX1_fillRows 29 = .ok (.istore_n 1, 1) := by decide +kernel
theorem dX1_fillRows_30 : decode cX1_fillRows 30 = .ok (.iload_n 1, 1) := by decide +kernel
theorem dX1_fillRows_31 : decode cX1_fillRows 31 = .ok (.ifCond .lt 68, 3) := by decide +kernel
theorem dX1_fillRows_34 : decode cX1_fillRows 34 = .ok (.iload_n 1, 1) := by decide +kernel
theorem dX1_fillRows_35 : decode cX1_fillRows 35 = .ok (.iconst 1, 1) := by decide +kernel
theorem dX1_fillRows_36 : decode cX1_fillRows 36 = .ok (.iadd, 1) := by decide +kernel
theorem dX1_fillRows_37 : decode cX1_fillRows 37 = .ok (.istore_n 2, 1) := by decide +kernel
theorem dX1_fillRows_38 : decode cX1_fillRows 38 = .ok (.iload_n 2, 1) := by decide +kernel
theorem dX1_fillRows_39 : decode cX1_fillRows 39 = .ok (.aload_n 0, 1) := by decide +kernel
theorem dX1_fillRows_40 : decode cX1_fillRows 40 = .ok (.getfield 61, 3) := by decide +kernel
theorem dX1_fillRows_43 : decode cX1_fillRows 43 = .ok (.if_icmp .ge 29, 3) := by decide +kernel
theorem dX1_fillRows_46 : decode cX1_fillRows 46 = .ok (.aload_n 0, 1) := by decide +kernel
theorem dX1_fillRows_47 : decode cX1_fillRows 47 = .ok (.getfield 15, 3) := by decide +kernel
theorem dX1_fillRows_50 : decode cX1_fillRows 50 = .ok (.iload_n 2, 1) := by decide +kernel
theorem dX1_fillRows_51 : decode cX1_fillRows 51 = .ok (.iaload, 1) := by decide +kernel
theorem dX1_fillRows_52 : decode cX1_fillRows 52 = .ok (.aload_n 0, 1) := by decide +kernel
theorem dX1_fillRows_53 : decode cX1_fillRows 53 = .ok (.getfield 9, 3) := by decide +kernel
theorem dX1_fillRows_56 : decode cX1_fillRows 56 = .ok (.iload_n 1, 1) := by decide +kernel
theorem dX1_fillRows_57 : decode cX1_fillRows 57 = .ok (.iaload, 1) := by decide +kernel
theorem dX1_fillRows_58 : decode cX1_fillRows 58 = .ok (.isub, 1) := by decide +kernel
theorem dX1_fillRows_59 : decode cX1_fillRows 59 = .ok (.aload_n 0, 1) := by decide +kernel
theorem dX1_fillRows_60 : decode cX1_fillRows 60 = .ok (.getfield 32, 3) := by decide +kernel
theorem dX1_fillRows_63 : decode cX1_fillRows 63 = .ok (.if_icmp .gt 9, 3) := by decide +kernel
theorem dX1_fillRows_66 : decode cX1_fillRows 66 = .ok (.iinc 2 1, 3) := by decide +kernel
theorem dX1_fillRows_69 : decode cX1_fillRows 69 = .ok (.goto (-31), 3) := by decide +kernel
theorem dX1_fillRows_72 : decode cX1_fillRows 72 = .ok (.aload_n 0, 1) := by decide +kernel
theorem dX1_fillRows_73 : decode cX1_fillRows 73 = .ok (.getfield 18, 3) := by decide +kernel
theorem dX1_fillRows_76 : decode cX1_fillRows 76 = .ok (.iload_n 1, 1) := by decide +kernel
theorem dX1_fillRows_77 : decode cX1_fillRows 77 = .ok (.iload_n 2, 1) := by decide +kernel
theorem dX1_fillRows_78 : decode cX1_fillRows 78 = .ok (.iastore, 1) := by decide +kernel
theorem dX1_fillRows_79 : decode cX1_fillRows 79 = .ok (.aload_n 0, 1) := by decide +kernel
theorem dX1_fillRows_80 : decode cX1_fillRows 80 = .ok (.getfield 21, 3) := by decide +kernel
theorem dX1_fillRows_83 : decode cX1_fillRows 83 = .ok (.iload_n 1, 1) := by decide +kernel
theorem dX1_fillRows_84 : decode cX1_fillRows 84 = .ok (.aload_n 0, 1) := by decide +kernel
theorem dX1_fillRows_85 : decode cX1_fillRows 85 = .ok (.getfield 21, 3) := by decide +kernel
theorem dX1_fillRows_88 : decode cX1_fillRows 88 = .ok (.iload_n 2, 1) := by decide +kernel
theorem dX1_fillRows_89 : decode cX1_fillRows 89 = .ok (.iaload, 1) := by decide +kernel
theorem dX1_fillRows_90 : decode cX1_fillRows 90 = .ok (.iconst 1, 1) := by decide +kernel
theorem dX1_fillRows_91 : decode cX1_fillRows 91 = .ok (.iadd, 1) := by decide +kernel
theorem dX1_fillRows_92 : decode cX1_fillRows 92 = .ok (.iastore, 1) := by decide +kernel
theorem dX1_fillRows_93 : decode cX1_fillRows 93 = .ok (.iinc 1 (-1), 3) := by decide +kernel
theorem dX1_fillRows_96 : decode cX1_fillRows 96 = .ok (.goto (-66), 3) := by decide +kernel
theorem dX1_fillRows_99 : decode cX1_fillRows 99 = .ok (.aload_n 0, 1) := by decide +kernel
theorem dX1_fillRows_100 : decode cX1_fillRows 100 = .ok (.getfield 24, 3) := by decide +kernel
theorem dX1_fillRows_103 : decode cX1_fillRows 103 = .ok (.iconst 0, 1) := by decide +kernel
theorem dX1_fillRows_104 : decode cX1_fillRows 104 = .ok (.iconst 0, 1) := by decide +kernel
theorem dX1_fillRows_105 : decode cX1_fillRows 105 = .ok (.iastore, 1) := by decide +kernel
theorem dX1_fillRows_106 : decode cX1_fillRows 106 = .ok (.iconst 0, 1) := by decide +kernel
theorem dX1_fillRows_107 : decode cX1_fillRows 107 = .ok (.istore_n 1, 1) := by decide +kernel
theorem dX1_fillRows_108 : decode cX1_fillRows 108 = .ok (.iload_n 1, 1) := by decide +kernel
theorem dX1_fillRows_109 : decode cX1_fillRows 109 = .ok (.bipush 12, 2) := by decide +kernel
theorem dX1_fillRows_111 : decode cX1_fillRows 111 = .ok (.if_icmp .ge 28, 3) := by decide +kernel
theorem dX1_fillRows_114 : decode cX1_fillRows 114 = .ok (.aload_n 0, 1) := by decide +kernel
theorem dX1_fillRows_115 : decode cX1_fillRows 115 = .ok (.getfield 24, 3) := by decide +kernel
theorem dX1_fillRows_118 : decode cX1_fillRows 118 = .ok (.iload_n 1, 1) := by decide +kernel
theorem dX1_fillRows_119 : decode cX1_fillRows 119 = .ok (.iconst 1, 1) := by decide +kernel
theorem dX1_fillRows_120 : decode cX1_fillRows 120 = .ok (.iadd, 1) := by decide +kernel
theorem dX1_fillRows_121 : decode cX1_fillRows 121 = .ok (.aload_n 0, 1) := by decide +kernel
theorem dX1_fillRows_122 : decode cX1_fillRows 122 = .ok (.getfield 18, 3) := by decide +kernel
theorem dX1_fillRows_125 : decode cX1_fillRows 125 = .ok (.aload_n 0, 1) := by decide +kernel
theorem dX1_fillRows_126 : decode cX1_fillRows 126 = .ok (.getfield 24, 3) := by decide +kernel
theorem dX1_fillRows_129 : decode cX1_fillRows 129 = .ok (.iload_n 1, 1) := by decide +kernel
theorem dX1_fillRows_130 : decode cX1_fillRows 130 = .ok (.iaload, 1) := by decide +kernel
theorem dX1_fillRows_131 : decode cX1_fillRows 131 = .ok (.iaload, 1) := by decide +kernel
theorem dX1_fillRows_132 : decode cX1_fillRows 132 = .ok (.iastore, 1) := by decide +kernel
theorem dX1_fillRows_133 : decode cX1_fillRows 133 = .ok (.iinc 1 1, 3) := by decide +kernel
theorem dX1_fillRows_136 : decode cX1_fillRows 136 = .ok (.goto (-28), 3) := by decide +kernel
theorem dX1_fillRows_139 : decode cX1_fillRows 139 = .ok (.return_, 1) := by decide +kernel
theorem dX1_forgetPrices_0 : decode cX1_forgetPrices 0 = .ok (.iconst 0, 1) := by decide +kernel
theorem dX1_forgetPrices_1 : decode cX1_forgetPrices 1 = .ok (.istore_n 1, 1) := by decide +kernel
theorem dX1_forgetPrices_2 : decode cX1_forgetPrices 2 = .ok (.iload_n 1, 1) := by decide +kernel
theorem dX1_forgetPrices_3 : decode cX1_forgetPrices 3 = .ok (.aload_n 0, 1) := by decide +kernel
theorem dX1_forgetPrices_4 : decode cX1_forgetPrices 4 = .ok (.getfield 49, 3) := by decide +kernel
theorem dX1_forgetPrices_7 : decode cX1_forgetPrices 7 = .ok (.if_icmp .gt 35, 3) := by decide +kernel
theorem dX1_forgetPrices_10 : decode cX1_forgetPrices 10 = .ok (.iconst 0, 1) := by decide +kernel
theorem dX1_forgetPrices_11 : decode cX1_forgetPrices 11 = .ok (.istore_n 2, 1) := by decide +kernel
theorem dX1_forgetPrices_12 : decode cX1_forgetPrices 12 = .ok (.iload_n 2, 1) := by decide +kernel
theorem dX1_forgetPrices_13 : decode cX1_forgetPrices 13 = .ok (.aload_n 0, 1) := by decide +kernel
theorem dX1_forgetPrices_14 : decode cX1_forgetPrices 14 = .ok (.getfield 61, 3) := by decide +kernel
theorem dX1_forgetPrices_17 : decode cX1_forgetPrices 17 = .ok (.if_icmp .gt 19, 3) := by decide +kernel
theorem dX1_forgetPrices_20 : decode cX1_forgetPrices 20 = .ok (.aload_n 0, 1) := by decide +kernel
theorem dX1_forgetPrices_21 : decode cX1_forgetPrices 21 = .ok (.getfield 29, 3) := by decide +kernel
theorem dX1_forgetPrices_24 : decode cX1_forgetPrices 24 = .ok (.iload_n 1, 1) := by decide +kernel
theorem dX1_forgetPrices_25 : decode cX1_forgetPrices 25 = .ok (.aaload, 1) := by decide +kernel
theorem dX1_forgetPrices_26 : decode cX1_forgetPrices 26 = .ok (.iload_n 2, 1) := by decide +kernel
theorem dX1_forgetPrices_27 : decode cX1_forgetPrices 27 = .ok (.ldc 76, 2) := by decide +kernel
theorem dX1_forgetPrices_29 : decode cX1_forgetPrices 29 = .ok (.iastore, 1) := by decide +kernel
theorem dX1_forgetPrices_30 : decode cX1_forgetPrices 30 = .ok (.iinc 2 1, 3) := by decide +kernel
theorem dX1_forgetPrices_33 : decode cX1_forgetPrices 33 = .ok (.goto (-21), 3) := by decide +kernel
theorem dX1_forgetPrices_36 : decode cX1_forgetPrices 36 = .ok (.iinc 1 1, 3) := by decide +kernel
theorem dX1_forgetPrices_39 : decode cX1_forgetPrices 39 = .ok (.goto (-37), 3) := by decide +kernel
theorem dX1_forgetPrices_42 : decode cX1_forgetPrices 42 = .ok (.return_, 1) := by decide +kernel
theorem dX1_priceWays_0 : decode cX1_priceWays 0 = .ok (.aload_n 0, 1) := by decide +kernel
theorem dX1_priceWays_1 : decode cX1_priceWays 1 = .ok (.getfield 29, 3) := by decide +kernel
theorem dX1_priceWays_4 : decode cX1_priceWays 4 = .ok (.aload_n 0, 1) := by decide +kernel
theorem dX1_priceWays_5 : decode cX1_priceWays 5 = .ok (.getfield 49, 3) := by decide +kernel
theorem dX1_priceWays_8 : decode cX1_priceWays 8 = .ok (.aaload, 1) := by decide +kernel
theorem dX1_priceWays_9 : decode cX1_priceWays 9 = .ok (.aload_n 0, 1) := by decide +kernel
theorem dX1_priceWays_10 : decode cX1_priceWays 10 = .ok (.getfield 61, 3) := by decide +kernel
theorem dX1_priceWays_13 : decode cX1_priceWays 13 = .ok (.iconst 0, 1) := by decide +kernel
theorem dX1_priceWays_14 : decode cX1_priceWays 14 = .ok (.iastore, 1) := by decide +kernel
theorem dX1_priceWays_15 : decode cX1_priceWays 15 = .ok (.aload_n 0, 1) := by decide +kernel
theorem dX1_priceWays_16 : decode cX1_priceWays 16 = .ok (.getfield 49, 3) := by decide +kernel
theorem dX1_priceWays_19 : decode cX1_priceWays 19 = .ok (.iconst 1, 1) := by decide +kernel
theorem dX1_priceWays_20 : decode cX1_priceWays 20 = .ok (.isub, 1) := by decide +kernel
theorem dX1_priceWays_21 : decode cX1_priceWays 21 = .ok (.istore_n 1, 1) := by decide +kernel
theorem dX1_priceWays_22 : decode cX1_priceWays 22 = .ok (.iload_n 1, 1) := by decide +kernel
theorem dX1_priceWays_23 : decode cX1_priceWays 23 = .ok (.ifCond .lt 55, 3) := by decide +kernel
theorem dX1_priceWays_26 : decode cX1_priceWays 26 = .ok (.aload_n 0, 1) := by decide +kernel
theorem dX1_priceWays_27 : decode cX1_priceWays 27 = .ok (.getfield 24, 3) := by decide +kernel
theorem dX1_priceWays_30 : decode cX1_priceWays 30 = .ok (.iload_n 1, 1) := by decide +kernel
theorem dX1_priceWays_31 : decode cX1_priceWays 31 = .ok (.iaload, 1) := by decide +kernel
theorem dX1_priceWays_32 : decode cX1_priceWays 32 = .ok (.istore_n 2, 1) := by decide +kernel
theorem dX1_priceWays_33 : decode cX1_priceWays 33 = .ok (.iload_n 2, 1) := by decide +kernel
theorem dX1_priceWays_34 : decode cX1_priceWays 34 = .ok (.ifCond .lt 38, 3) := by decide +kernel
theorem dX1_priceWays_37 : decode cX1_priceWays 37 = .ok (.aload_n 0, 1) := by decide +kernel
theorem dX1_priceWays_38 : decode cX1_priceWays 38 = .ok (.getfield 21, 3) := by decide +kernel
theorem dX1_priceWays_41 : decode cX1_priceWays 41 = .ok (.iload_n 2, 1) := by decide +kernel
theorem dX1_priceWays_42 : decode cX1_priceWays 42 = .ok (.iaload, 1) := by decide +kernel
theorem dX1_priceWays_43 : decode cX1_priceWays 43 = .ok (.aload_n 0, 1) := by decide +kernel
theorem dX1_priceWays_44 : decode cX1_priceWays 44 = .ok (.getfield 49, 3) := by decide +kernel
theorem dX1_priceWays_47 : decode cX1_priceWays 47 = .ok (.iload_n 1, 1) := by decide +kernel
theorem dX1_priceWays_48 : decode cX1_priceWays 48 = .ok (.isub, 1) := by decide +kernel
theorem dX1_priceWays_49 : decode cX1_priceWays 49 = .ok (.if_icmp .gt 23, 3) := by decide +kernel
theorem dX1_priceWays_52 : decode cX1_priceWays 52 = .ok (.aload_n 0, 1) := by decide +kernel
theorem dX1_priceWays_53 : decode cX1_priceWays 53 = .ok (.getfield 29, 3) := by decide +kernel
theorem dX1_priceWays_56 : decode cX1_priceWays 56 = .ok (.iload_n 1, 1) := by decide +kernel
theorem dX1_priceWays_57 : decode cX1_priceWays 57 = .ok (.aaload, 1) := by decide +kernel
theorem dX1_priceWays_58 : decode cX1_priceWays 58 = .ok (.iload_n 2, 1) := by decide +kernel
theorem dX1_priceWays_59 : decode cX1_priceWays 59 = .ok (.aload_n 0, 1) := by decide +kernel
theorem dX1_priceWays_60 : decode cX1_priceWays 60 = .ok (.iload_n 1, 1) := by decide +kernel
theorem dX1_priceWays_61 : decode cX1_priceWays 61 = .ok (.iload_n 2, 1) := by decide +kernel
theorem dX1_priceWays_62 : decode cX1_priceWays 62 = .ok (.invokevirtual 77, 3) := by decide +kernel
theorem dX1_priceWays_65 : decode cX1_priceWays 65 = .ok (.iastore, 1) := by decide +kernel
theorem dX1_priceWays_66 : decode cX1_priceWays 66 = .ok (.iinc 2 (-1), 3) := by decide +kernel
theorem dX1_priceWays_69 : decode cX1_priceWays 69 = .ok (.goto (-36), 3) := by decide +kernel
theorem dX1_priceWays_72 : decode cX1_priceWays 72 = .ok (.iinc 1 (-1), 3) := by decide +kernel
theorem dX1_priceWays_75 : decode cX1_priceWays 75 = .ok (.goto (-53), 3) := by decide +kernel
theorem dX1_priceWays_78 : decode cX1_priceWays 78 = .ok (.return_, 1) := by decide +kernel
theorem dX1_leastPrice_0 : decode cX1_leastPrice 0 = .ok (.iload_n 1, 1) := by decide +kernel
theorem dX1_leastPrice_1 : decode cX1_leastPrice 1 = .ok (.iconst 2, 1) := by decide +kernel
theorem dX1_leastPrice_2 : decode cX1_leastPrice 2 = .ok (.irem, 1) := by decide +kernel
theorem dX1_leastPrice_3 : decode cX1_leastPrice 3 = .ok (.ifCond .eq 7, 3) := by decide +kernel
theorem dX1_leastPrice_6 : decode cX1_leastPrice 6 = .ok (.iconst 1, 1) := by decide +kernel
theorem dX1_leastPrice_7 : decode cX1_leastPrice 7 = .ok (.goto 4, 3) := by decide +kernel
theorem dX1_leastPrice_10 : decode cX1_leastPrice 10 = .ok (.iconst 0, 1) := by decide +kernel
theorem dX1_leastPrice_11 : decode cX1_leastPrice 11 = .ok (.istore_n 3, 1) := by decide +kernel
theorem dX1_leastPrice_12 : decode cX1_leastPrice 12 = .ok (.iload_n 3, 1) := by decide +kernel
theorem dX1_leastPrice_13 : decode cX1_leastPrice 13 = .ok (.ifCond .eq 16, 3) := by decide +kernel
theorem dX1_leastPrice_16 : decode cX1_leastPrice 16 = .ok (.aload_n 0, 1) := by decide +kernel
theorem dX1_leastPrice_17 : decode cX1_leastPrice 17 = .ok (.getfield 29, 3) := by decide +kernel
theorem dX1_leastPrice_20 : decode cX1_leastPrice 20 = .ok (.iload_n 1, 1) := by decide +kernel
theorem dX1_leastPrice_21 : decode cX1_leastPrice 21 = .ok (.iconst 1, 1) := by decide +kernel
theorem dX1_leastPrice_22 : decode cX1_leastPrice 22 = .ok (.iadd, 1) := by decide +kernel
theorem dX1_leastPrice_23 : decode cX1_leastPrice 23 = .ok (.aaload, 1) := by decide +kernel
theorem dX1_leastPrice_24 : decode cX1_leastPrice 24 = .ok (.iload_n 2, 1) := by decide +kernel
theorem dX1_leastPrice_25 : decode cX1_leastPrice 25 = .ok (.iaload, 1) := by decide +kernel
theorem dX1_leastPrice_26 : decode cX1_leastPrice 26 = .ok (.goto 5, 3) := by decide +kernel
theorem dX1_leastPrice_29 : decode cX1_leastPrice 29 = .ok (.ldc 76, 2) := by decide +kernel
theorem dX1_leastPrice_31 : decode cX1_leastPrice 31 = .ok (.istore 4, 2) := by decide +kernel
theorem dX1_leastPrice_33 : decode cX1_leastPrice 33 = .ok (.iload_n 2, 1) := by decide +kernel
theorem dX1_leastPrice_34 : decode cX1_leastPrice 34 = .ok (.iconst 1, 1) := by decide +kernel
theorem dX1_leastPrice_35 : decode cX1_leastPrice 35 = .ok (.iadd, 1) := by decide +kernel
theorem dX1_leastPrice_36 : decode cX1_leastPrice 36 = .ok (.istore 5, 2) := by decide +kernel
theorem dX1_leastPrice_38 : decode cX1_leastPrice 38 = .ok (.iload 5, 2) := by decide +kernel
theorem dX1_leastPrice_40 : decode cX1_leastPrice 40 = .ok (.aload_n 0, 1) := by decide +kernel
theorem dX1_leastPrice_41 : decode cX1_leastPrice 41 = .ok (.getfield 18, 3) := by decide +kernel
theorem dX1_leastPrice_44 : decode cX1_leastPrice 44 = .ok (.iload_n 2, 1) := by decide +kernel
theorem dX1_leastPrice_45 : decode cX1_leastPrice 45 = .ok (.iaload, 1) := by decide +kernel
theorem dX1_leastPrice_46 : decode cX1_leastPrice 46 = .ok (.if_icmp .gt 24, 3) := by decide +kernel
theorem dX1_leastPrice_49 : decode cX1_leastPrice 49 = .ok (.iload 4, 2) := by decide +kernel
theorem dX1_leastPrice_51 : decode cX1_leastPrice 51 = .ok (.aload_n 0, 1) := by decide +kernel
theorem dX1_leastPrice_52 : decode cX1_leastPrice 52 = .ok (.iload_n 1, 1) := by decide +kernel
theorem dX1_leastPrice_53 : decode cX1_leastPrice 53 = .ok (.iload_n 2, 1) := by decide +kernel
theorem dX1_leastPrice_54 : decode cX1_leastPrice 54 = .ok (.iload 5, 2) := by decide +kernel
theorem dX1_leastPrice_56 : decode cX1_leastPrice 56 = .ok (.invokevirtual 80, 3) := by decide +kernel
theorem dX1_leastPrice_59 : decode cX1_leastPrice 59 = .ok (.invokestatic 43, 3) := by decide +kernel
theorem dX1_leastPrice_62 : decode cX1_leastPrice 62 = .ok (.istore 4, 2) := by decide +kernel
theorem dX1_leastPrice_64 : decode cX1_leastPrice 64 = .ok (.iinc 5 1, 3) := by decide +kernel
theorem dX1_leastPrice_67 : decode cX1_leastPrice 67 = .ok (.goto (-29), 3) := by decide +kernel
theorem dX1_leastPrice_70 : decode cX1_leastPrice 70 = .ok (.iload 4, 2) := by decide +kernel
theorem dX1_leastPrice_72 : decode cX1_leastPrice 72 = .ok (.ireturn, 1) := by decide +kernel
theorem dX1_priceWith_0 : decode cX1_priceWith 0 = .ok (.aload_n 0, 1) := by decide +kernel
theorem dX1_priceWith_1 : decode cX1_priceWith 1 = .ok (.getfield 32, 3) := by decide +kernel
theorem dX1_priceWith_4 : decode cX1_priceWith 4 = .ok (.aload_n 0, 1) := by decide +kernel
theorem dX1_priceWith_5 : decode cX1_priceWith 5 = .ok (.getfield 15, 3) := by decide +kernel
theorem dX1_priceWith_8 : decode cX1_priceWith 8 = .ok (.iload_n 3, 1) := by decide +kernel
theorem dX1_priceWith_9 : decode cX1_priceWith 9 = .ok (.iconst 1, 1) := by decide +kernel
theorem dX1_priceWith_10 : decode cX1_priceWith 10 = .ok (.isub, 1) := by decide +kernel
theorem dX1_priceWith_11 : decode cX1_priceWith 11 = .ok (.iaload, 1) := by decide +kernel
theorem dX1_priceWith_12 : decode cX1_priceWith 12 = .ok (.aload_n 0, 1) := by decide +kernel
theorem dX1_priceWith_13 : decode cX1_priceWith 13 = .ok (.getfield 9, 3) := by decide +kernel
theorem dX1_priceWith_16 : decode cX1_priceWith 16 = .ok (.iload_n 2, 1) := by decide +kernel
theorem dX1_priceWith_17 : decode cX1_priceWith 17 = .ok (.iaload, 1) := by decide +kernel
theorem dX1_priceWith_18 : decode cX1_priceWith 18 = .ok (.isub, 1) := by decide +kernel
theorem dX1_priceWith_19 : decode cX1_priceWith 19 = .ok (.isub, 1) := by decide +kernel
theorem dX1_priceWith_20 : decode cX1_priceWith 20 = .ok (.istore 4, 2) := by decide +kernel
theorem dX1_priceWith_22 : decode cX1_priceWith 22 = .ok (.iload 4, 2) := by decide +kernel
theorem dX1_priceWith_24 : decode cX1_priceWith 24 = .ok (.iload 4, 2) := by decide +kernel
theorem dX1_priceWith_26 : decode cX1_priceWith 26 = .ok (.imul, 1) := by decide +kernel
theorem dX1_priceWith_27 : decode cX1_priceWith 27 = .ok (.aload_n 0, 1) := by decide +kernel
theorem dX1_priceWith_28 : decode cX1_priceWith 28 = .ok (.getfield 29, 3) := by decide +kernel
theorem dX1_priceWith_31 : decode cX1_priceWith 31 = .ok (.iload_n 1, 1) := by decide +kernel
theorem dX1_priceWith_32 : decode cX1_priceWith 32 = .ok (.iconst 1, 1) := by decide +kernel
theorem dX1_priceWith_33 : decode cX1_priceWith 33 = .ok (.iadd, 1) := by decide +kernel
theorem dX1_priceWith_34 : decode cX1_priceWith 34 = .ok (.aaload, 1) := by decide +kernel
theorem dX1_priceWith_35 : decode cX1_priceWith 35 = .ok (.iload_n 3, 1) := by decide +kernel
theorem dX1_priceWith_36 : decode cX1_priceWith 36 = .ok (.iaload, 1) := by decide +kernel
theorem dX1_priceWith_37 : decode cX1_priceWith 37 = .ok (.iadd, 1) := by decide +kernel
theorem dX1_priceWith_38 : decode cX1_priceWith 38 = .ok (.ireturn, 1) := by decide +kernel
theorem dX1_writeRows_0 : decode cX1_writeRows 0 = .ok (.iconst 0, 1) := by decide +kernel
theorem dX1_writeRows_1 : decode cX1_writeRows 1 = .ok (.istore_n 2, 1) := by decide +kernel
theorem dX1_writeRows_2 : decode cX1_writeRows 2 = .ok (.iconst 0, 1) := by decide +kernel
theorem dX1_writeRows_3 : decode cX1_writeRows 3 = .ok (.istore_n 3, 1) := by decide +kernel
theorem dX1_writeRows_4 : decode cX1_writeRows 4 = .ok (.iload_n 3, 1) := by decide +kernel
theorem dX1_writeRows_5 : decode cX1_writeRows 5 = .ok (.aload_n 0, 1) := by decide +kernel
theorem dX1_writeRows_6 : decode cX1_writeRows 6 = .ok (.getfield 49, 3) := by decide +kernel
theorem dX1_writeRows_9 : decode cX1_writeRows 9 = .ok (.if_icmp .ge 37, 3) := by decide +kernel
theorem dX1_writeRows_12 : decode cX1_writeRows 12 = .ok (.aload_n 0, 1) := by decide +kernel
theorem dX1_writeRows_13 : decode cX1_writeRows 13 = .ok (.iload_n 3, 1) := by decide +kernel
theorem dX1_writeRows_14 : decode cX1_writeRows 14 = .ok (.iload_n 2, 1) := by decide +kernel
theorem dX1_writeRows_15 : decode cX1_writeRows 15 = .ok (.invokevirtual 84, 3) := by decide +kernel
theorem dX1_writeRows_18 : decode cX1_writeRows 18 = .ok (.istore_n 2, 1) := by decide +kernel
theorem dX1_writeRows_19 : decode cX1_writeRows 19 = .ok (.aload_n 1, 1) := by decide +kernel
theorem dX1_writeRows_20 : decode cX1_writeRows 20 = .ok (.iload_n 3, 1) := by decide +kernel
theorem dX1_writeRows_21 : decode cX1_writeRows 21 = .ok (.iload_n 2, 1) := by decide +kernel
theorem dX1_writeRows_22 : decode cX1_writeRows 22 = .ok (.ifCond .le 14, 3) := by decide +kernel
theorem dX1_writeRows_25 : decode cX1_writeRows 25 = .ok (.aload_n 0, 1) := by decide +kernel
theorem dX1_writeRows_26 : decode cX1_writeRows 26 = .ok (.getfield 15, 3) := by decide +kernel
theorem dX1_writeRows_29 : decode cX1_writeRows 29 = .ok (.iload_n 2, 1) := by decide +kernel
theorem dX1_writeRows_30 : decode cX1_writeRows 30 = .ok (.iconst 1, 1) := by decide +kernel
theorem dX1_writeRows_31 : decode cX1_writeRows 31 = .ok (.isub, 1) := by decide +kernel
theorem dX1_writeRows_32 : decode cX1_writeRows 32 = .ok (.iaload, 1) := by decide +kernel
theorem dX1_writeRows_33 : decode cX1_writeRows 33 = .ok (.goto 4, 3) := by decide +kernel
theorem dX1_writeRows_36 : decode cX1_writeRows 36 = .ok (.iconst 0, 1) := by decide +kernel
theorem dX1_writeRows_37 : decode cX1_writeRows 37 = .ok (.invokevirtual 87, 3) := by decide +kernel
theorem dX1_writeRows_40 : decode cX1_writeRows 40 = .ok (.iinc 3 1, 3) := by decide +kernel
theorem dX1_writeRows_43 : decode cX1_writeRows 43 = .ok (.goto (-39), 3) := by decide +kernel
theorem dX1_writeRows_46 : decode cX1_writeRows 46 = .ok (.aload_n 1, 1) := by decide +kernel
theorem dX1_writeRows_47 : decode cX1_writeRows 47 = .ok (.aload_n 0, 1) := by decide +kernel
theorem dX1_writeRows_48 : decode cX1_writeRows 48 = .ok (.getfield 49, 3) := by decide +kernel
theorem dX1_writeRows_51 : decode cX1_writeRows 51 = .ok (.iconst 2, 1) := by decide +kernel
theorem dX1_writeRows_52 : decode cX1_writeRows 52 = .ok (.idiv, 1) := by decide +kernel
theorem dX1_writeRows_53 : decode cX1_writeRows 53 = .ok (.putfield 91, 3) := by decide +kernel
theorem dX1_writeRows_56 : decode cX1_writeRows 56 = .ok (.aload_n 1, 1) := by decide +kernel
theorem dX1_writeRows_57 : decode cX1_writeRows 57 = .ok (.aload_n 0, 1) := by decide +kernel
theorem dX1_writeRows_58 : decode cX1_writeRows 58 = .ok (.getfield 29, 3) := by decide +kernel
theorem dX1_writeRows_61 : decode cX1_writeRows 61 = .ok (.iconst 0, 1) := by decide +kernel
theorem dX1_writeRows_62 : decode cX1_writeRows 62 = .ok (.aaload, 1) := by decide +kernel
theorem dX1_writeRows_63 : decode cX1_writeRows 63 = .ok (.iconst 0, 1) := by decide +kernel
theorem dX1_writeRows_64 : decode cX1_writeRows 64 = .ok (.iaload, 1) := by decide +kernel
theorem dX1_writeRows_65 : decode cX1_writeRows 65 = .ok (.putfield 94, 3) := by decide +kernel
theorem dX1_writeRows_68 : decode cX1_writeRows 68 = .ok (.return_, 1) := by decide +kernel
theorem dX1_longestStop_0 : decode cX1_longestStop 0 = .ok (.aload_n 0, 1) := by decide +kernel
theorem dX1_longestStop_1 : decode cX1_longestStop 1 = .ok (.getfield 18, 3) := by decide +kernel
theorem dX1_longestStop_4 : decode cX1_longestStop 4 = .ok (.iload_n 2, 1) := by decide +kernel
theorem dX1_longestStop_5 : decode cX1_longestStop 5 = .ok (.iaload, 1) := by decide +kernel
theorem dX1_longestStop_6 : decode cX1_longestStop 6 = .ok (.istore_n 3, 1) := by decide +kernel
theorem dX1_longestStop_7 : decode cX1_longestStop 7 = .ok (.iload_n 3, 1) := by decide +kernel
theorem dX1_longestStop_8 : decode cX1_longestStop 8 = .ok (.iload_n 2, 1) := by decide +kernel
theorem dX1_longestStop_9 : decode cX1_longestStop 9 = .ok (.if_icmp .le 29, 3) := by decide +kernel
theorem dX1_longestStop_12 : decode cX1_longestStop 12 = .ok (.aload_n 0, 1) := by decide +kernel
theorem dX1_longestStop_13 : decode cX1_longestStop 13 = .ok (.iload_n 1, 1) := by decide +kernel
theorem dX1_longestStop_14 : decode cX1_longestStop 14 = .ok (.iload_n 2, 1) := by decide +kernel
theorem dX1_longestStop_15 : decode cX1_longestStop 15 = .ok (.iload_n 3, 1) := by decide +kernel
theorem dX1_longestStop_16 : decode cX1_longestStop 16 = .ok (.invokevirtual 80, 3) := by decide +kernel
theorem dX1_longestStop_19 : decode cX1_longestStop 19 = .ok (.aload_n 0, 1) := by decide +kernel
theorem dX1_longestStop_20 : decode cX1_longestStop 20 = .ok (.getfield 29, 3) := by decide +kernel
theorem dX1_longestStop_23 : decode cX1_longestStop 23 = .ok (.iload_n 1, 1) := by decide +kernel
theorem dX1_longestStop_24 : decode cX1_longestStop 24 = .ok (.aaload, 1) := by decide +kernel
theorem dX1_longestStop_25 : decode cX1_longestStop 25 = .ok (.iload_n 2, 1) := by decide +kernel
theorem dX1_longestStop_26 : decode cX1_longestStop 26 = .ok (.iaload, 1) := by decide +kernel
theorem dX1_longestStop_27 : decode cX1_longestStop 27 = .ok (.if_icmp .ne 5, 3) := by decide +kernel
theorem dX1_longestStop_30 : decode cX1_longestStop 30 = .ok (.iload_n 3, 1) := by decide +kernel
theorem dX1_longestStop_31 : decode cX1_longestStop 31 = .ok (.ireturn, 1) := by decide +kernel
theorem dX1_longestStop_32 : decode cX1_longestStop 32 = .ok (.iinc 3 (-1), 3) := by decide +kernel
theorem dX1_longestStop_35 : decode cX1_longestStop 35 = .ok (.goto (-28), 3) := by decide +kernel
theorem dX1_longestStop_38 : decode cX1_longestStop 38 = .ok (.iload_n 2, 1) := by decide +kernel
theorem dX1_longestStop_39 : decode cX1_longestStop 39 = .ok (.ireturn, 1) := by decide +kernel
theorem dX2_init_0 : decode cX2_init 0 = .ok (.aload_n 0, 1) := by decide +kernel
theorem dX2_init_1 : decode cX2_init 1 = .ok (.invokespecial 3, 3) := by decide +kernel
theorem dX2_init_4 : decode cX2_init 4 = .ok (.aload_n 0, 1) := by decide +kernel
theorem dX2_init_5 : decode cX2_init 5 = .ok (.iconst 1, 1) := by decide +kernel
theorem dX2_init_6 : decode cX2_init 6 = .ok (.putfield 9, 3) := by decide +kernel
theorem dX2_init_9 : decode cX2_init 9 = .ok (.aload_n 0, 1) := by decide +kernel
theorem dX2_init_10 : decode cX2_init 10 = .ok (.iconst (-1), 1) := by decide +kernel
theorem dX2_init_11 : decode cX2_init 11 = .ok (.putfield 15, 3) := by decide +kernel
theorem dX2_init_14 : decode cX2_init 14 = .ok (.aload_n 0, 1) := by decide +kernel
theorem dX2_init_15 : decode cX2_init 15 = .ok (.bipush 8, 2) := by decide +kernel
theorem dX2_init_17 : decode cX2_init 17 = .ok (.newarray .boolean, 2) := by decide +kernel
theorem dX2_init_19 : decode cX2_init 19 = .ok (.putfield 19, 3) := by decide +kernel
theorem dX2_init_22 : decode cX2_init 22 = .ok (.aload_n 0, 1) := by decide +kernel
theorem dX2_init_23 : decode cX2_init 23 = .ok (.aload_n 1, 1) := by decide +kernel
theorem dX2_init_24 : decode cX2_init 24 = .ok (.putfield 23, 3) := by decide +kernel
theorem dX2_init_27 : decode cX2_init 27 = .ok (.return_, 1) := by decide +kernel
theorem dX2_start_0 : decode cX2_start 0 = .ok (.aload_n 0, 1) := by decide +kernel
theorem dX2_start_1 : decode cX2_start 1 = .ok (.aload_n 1, 1) := by decide +kernel
theorem dX2_start_2 : decode cX2_start 2 = .ok (.putfield 23, 3) := by decide +kernel
theorem dX2_start_5 : decode cX2_start 5 = .ok (.iconst 0, 1) := by decide +kernel
theorem dX2_start_6 : decode cX2_start 6 = .ok (.istore_n 2, 1) := by decide +kernel
theorem dX2_start_7 : decode cX2_start 7 = .ok (.iload_n 2, 1) := by decide +kernel
theorem dX2_start_8 : decode cX2_start 8 = .ok (.bipush 8, 2) := by decide +kernel
theorem dX2_start_10 : decode cX2_start 10 = .ok (.if_icmp .ge 16, 3) := by decide +kernel
theorem dX2_start_13 : decode cX2_start 13 = .ok (.aload_n 0, 1) := by decide +kernel
theorem dX2_start_14 : decode cX2_start 14 = .ok (.getfield 19, 3) := by decide +kernel
theorem dX2_start_17 : decode cX2_start 17 = .ok (.iload_n 2, 1) := by decide +kernel
theorem dX2_start_18 : decode cX2_start 18 = .ok (.iconst 0, 1) := by decide +kernel
theorem dX2_start_19 : decode cX2_start 19 = .ok (.bastore, 1) := by decide +kernel
theorem dX2_start_20 : decode cX2_start 20 = .ok (.iinc 2 1, 3) := by decide +kernel
theorem dX2_start_23 : decode cX2_start 23 = .ok (.goto (-16), 3) := by decide +kernel
theorem dX2_start_26 : decode cX2_start 26 = .ok (.aload_n 0, 1) := by decide +kernel
theorem dX2_start_27 : decode cX2_start 27 = .ok (.iconst 0, 1) := by decide +kernel
theorem dX2_start_28 : decode cX2_start 28 = .ok (.putfield 27, 3) := by decide +kernel
theorem dX2_start_31 : decode cX2_start 31 = .ok (.aload_n 0, 1) := by decide +kernel
theorem dX2_start_32 : decode cX2_start 32 = .ok (.iconst 0, 1) := by decide +kernel
theorem dX2_start_33 : decode cX2_start 33 = .ok (.putfield 30, 3) := by decide +kernel
theorem dX2_start_36 : decode cX2_start 36 = .ok (.aload_n 0, 1) := by decide +kernel
theorem dX2_start_37 : decode cX2_start 37 = .ok (.iconst 1, 1) := by decide +kernel
theorem dX2_start_38 : decode cX2_start 38 = .ok (.putfield 9, 3) := by decide +kernel
theorem dX2_start_41 : decode cX2_start 41 = .ok (.return_, 1) := by decide +kernel
theorem dX2_lead_0 : decode cX2_lead 0 = .ok (.aload_n 0, 1) := by decide +kernel
theorem dX2_lead_1 : decode cX2_lead 1 = .ok (.iload_n 1, 1) := by decide +kernel
theorem dX2_lead_2 : decode cX2_lead 2 = .ok (.invokevirtual 33, 3) := by decide +kernel
theorem dX2_lead_5 : decode cX2_lead 5 = .ok (.aload_n 0, 1) := by decide +kernel
theorem dX2_lead_6 : decode cX2_lead 6 = .ok (.iload_n 2, 1) := by decide +kernel
theorem dX2_lead_7 : decode cX2_lead 7 = .ok (.putfield 9, 3) := by decide +kernel
theorem dX2_lead_10 : decode cX2_lead 10 = .ok (.return_, 1) := by decide +kernel
theorem dX2_goTo_0 : decode cX2_goTo 0 = .ok (.aload_n 0, 1) := by decide +kernel
theorem dX2_goTo_1 : decode cX2_goTo 1 = .ok (.aload_n 0, 1) := by decide +kernel
theorem dX2_goTo_2 : decode cX2_goTo 2 = .ok (.iload_n 1, 1) := by decide +kernel
theorem dX2_goTo_3 : decode cX2_goTo 3 = .ok (.invokevirtual 37, 3) := by decide +kernel
theorem dX2_goTo_6 : decode cX2_goTo 6 = .ok (.putfield 27, 3) := by decide +kernel
theorem dX2_goTo_9 : decode cX2_goTo 9 = .ok (.aload_n 0, 1) := by decide +kernel
theorem dX2_goTo_10 : decode cX2_goTo 10 = .ok (.iconst 0, 1) := by decide +kernel
theorem dX2_goTo_11 : decode cX2_goTo 11 = .ok (.putfield 30, 3) := by decide +kernel
theorem dX2_goTo_14 : decode cX2_goTo 14 = .ok (.return_, 1) := by decide +kernel
theorem dX2_hear_0 : decode cX2_hear 0 = .ok (.iload_n 1, 1) := by decide +kernel
theorem dX2_hear_1 : decode cX2_hear 1 = .ok (.aload_n 0, 1) := by decide +kernel
theorem dX2_hear_2 : decode cX2_hear 2 = .ok (.getfield 27, 3) := by decide +kernel
theorem dX2_hear_5 : decode cX2_hear 5 = .ok (.if_icmp .lt 21, 3) := by decide +kernel
theorem dX2_hear_8 : decode cX2_hear 8 = .ok (.iload_n 1, 1) := by decide +kernel
theorem dX2_hear_9 : decode cX2_hear 9 = .ok (.aload_n 0, 1) := by decide +kernel
theorem dX2_hear_10 : decode cX2_hear 10 = .ok (.getfield 27, 3) := by decide +kernel
theorem dX2_hear_13 : decode cX2_hear 13 = .ok (.iconst 4, 1) := by decide +kernel
theorem dX2_hear_14 : decode cX2_hear 14 = .ok (.iadd, 1) := by decide +kernel
theorem dX2_hear_15 : decode cX2_hear 15 = .ok (.if_icmp .gt 11, 3) := by decide +kernel
theorem dX2_hear_18 : decode cX2_hear 18 = .ok (.aload_n 0, 1) := by decide +kernel
theorem dX2_hear_19 : decode cX2_hear 19 = .ok (.iload_n 1, 1) := by decide +kernel
theorem dX2_hear_20 : decode cX2_hear 20 = .ok (.invokevirtual 33, 3) := by decide +kernel
theorem dX2_hear_23 : decode cX2_hear 23 = .ok (.goto 68, 3) := by decide +kernel
theorem dX2_hear_26 : decode cX2_hear 26 = .ok (.aload_n 0, 1) := by decide +kernel
theorem dX2_hear_27 : decode cX2_hear 27 = .ok (.getfield 30, 3) := by decide +kernel
theorem dX2_hear_30 : decode cX2_hear 30 = .ok (.ifCond .le 29, 3) := by decide +kernel
theorem dX2_hear_33 : decode cX2_hear 33 = .ok (.iload_n 1, 1) := by decide +kernel
theorem dX2_hear_34 : decode cX2_hear 34 = .ok (.aload_n 0, 1) := by decide +kernel
theorem dX2_hear_35 : decode cX2_hear 35 = .ok (.getfield 15, 3) := by decide +kernel
theorem dX2_hear_38 : decode cX2_hear 38 = .ok (.iconst 1, 1) := by decide +kernel
theorem dX2_hear_39 : decode cX2_hear 39 = .ok (.iadd, 1) := by decide +kernel
theorem dX2_hear_40 : decode cX2_hear 40 = .ok (.if_icmp .ne 19, 3) := by decide +kernel
theorem dX2_hear_43 : decode cX2_hear 43 = .ok (.iload_n 1, 1) := by decide +kernel
theorem dX2_hear_44 : decode cX2_hear 44 = .ok (.aload_n 0, 1) := by decide +kernel
theorem dX2_hear_45 : decode cX2_hear 45 = .ok (.getfield 27, 3) := by decide +kernel
theorem dX2_hear_48 : decode cX2_hear 48 = .ok (.if_icmp .le 11, 3) := by decide +kernel
theorem dX2_hear_51 : decode cX2_hear 51 = .ok (.aload_n 0, 1) := by decide +kernel
theorem dX2_hear_52 : decode cX2_hear 52 = .ok (.iload_n 1, 1) := by decide +kernel
theorem dX2_hear_53 : decode cX2_hear 53 = .ok (.invokevirtual 33, 3) := by decide +kernel
theorem dX2_hear_56 : decode cX2_hear 56 = .ok (.goto 35, 3) := by decide +kernel
theorem dX2_hear_59 : decode cX2_hear 59 = .ok (.aload_n 0, 1) := by decide +kernel
theorem dX2_hear_60 : decode cX2_hear 60 = .ok (.dup, 1) := by decide +kernel
theorem dX2_hear_61 : decode cX2_hear 61 = .ok (.getfield 30, 3) := by decide +kernel
theorem dX2_hear_64 : decode cX2_hear 64 = .ok (.iconst 1, 1) := by decide +kernel
theorem dX2_hear_65 : decode cX2_hear 65 = .ok (.iadd, 1) := by decide +kernel
theorem dX2_hear_66 : decode cX2_hear 66 = .ok (.putfield 30, 3) := by decide +kernel
theorem dX2_hear_69 : decode cX2_hear 69 = .ok (.aload_n 0, 1) := by decide +kernel
theorem dX2_hear_70 : decode cX2_hear 70 = .ok (.iload_n 1, 1) := by decide +kernel
theorem dX2_hear_71 : decode cX2_hear 71 = .ok (.putfield 15, 3) := by decide +kernel
theorem dX2_hear_74 : decode cX2_hear 74 = .ok (.aload_n 0, 1) := by decide +kernel
theorem dX2_hear_75 : decode cX2_hear 75 = .ok (.aload_n 0, 1) := by decide +kernel
theorem dX2_hear_76 : decode cX2_hear 76 = .ok (.getfield 30, 3) := by decide +kernel
theorem dX2_hear_79 : decode cX2_hear 79 = .ok (.iconst 3, 1) := by decide +kernel
theorem dX2_hear_80 : decode cX2_hear 80 = .ok (.if_icmp .ge 7, 3) := by decide +kernel
theorem dX2_hear_83 : decode cX2_hear 83 = .ok (.iconst 1, 1) := by decide +kernel
theorem dX2_hear_84 : decode cX2_hear 84 = .ok (.goto 4, 3) := by decide +kernel
theorem dX2_hear_87 : decode cX2_hear 87 = .ok (.iconst 0, 1) := by decide +kernel
theorem dX2_hear_88 : decode cX2_hear 88 = .ok (.putfield 9, 3) := by decide +kernel
theorem dX2_hear_91 : decode cX2_hear 91 = .ok (.return_, 1) := by decide +kernel
theorem dX2_switchCut_0 : decode cX2_switchCut 0 = .ok (.iload_n 1, 1) := by decide +kernel
theorem dX2_switchCut_1 : decode cX2_switchCut 1 = .ok (.ifCond .lt 28, 3) := by decide +kernel
theorem dX2_switchCut_4 : decode cX2_switchCut 4 = .ok (.iload_n 1, 1) := by decide +kernel
theorem dX2_switchCut_5 : decode cX2_switchCut 5 = .ok (.bipush 8, 2) := by decide +kernel
theorem dX2_switchCut_7 : decode cX2_switchCut 7 = .ok (.if_icmp .ge 22, 3) := by decide +kernel
theorem dX2_switchCut_10 : decode cX2_switchCut 10 = .ok (.aload_n 0, 1) := by decide +kernel
theorem dX2_switchCut_11 : decode cX2_switchCut 11 = .ok (.getfield 19, 3) := by decide +kernel
theorem dX2_switchCut_14 : decode cX2_switchCut 14 = .ok (.iload_n 1, 1) := by decide +kernel
theorem dX2_switchCut_15 : decode cX2_switchCut 15 = .ok (.iload_n 2, 1) := by decide +kernel
theorem dX2_switchCut_16 : decode cX2_switchCut 16 = .ok (.bastore, 1) := by decide +kernel
theorem dX2_switchCut_17 : decode cX2_switchCut 17 = .ok (.aload_n 0, 1) := by decide +kernel
theorem dX2_switchCut_18 : decode cX2_switchCut 18 = .ok (.aload_n 0, 1) := by decide +kernel
theorem dX2_switchCut_19 : decode cX2_switchCut 19 = .ok (.aload_n 0, 1) := by decide +kernel
theorem dX2_switchCut_20 : decode cX2_switchCut 20 = .ok (.getfield 27, 3) := by decide +kernel
theorem dX2_switchCut_23 : decode cX2_switchCut 23 = .ok (.invokevirtual 37, 3) := by decide +kernel
theorem dX2_switchCut_26 : decode cX2_switchCut 26 = .ok (.putfield 27, 3) := by decide +kernel
theorem dX2_switchCut_29 : decode cX2_switchCut 29 = .ok (.return_, 1) := by decide +kernel
theorem dX2_behindCuts_0 : decode cX2_behindCuts 0 = .ok (.iload_n 1, 1) := by decide +kernel
theorem dX2_behindCuts_1 : decode cX2_behindCuts 1 = .ok (.istore_n 2, 1) := by decide +kernel
theorem dX2_behindCuts_2 : decode cX2_behindCuts 2 = .ok (.iconst 0, 1) := by decide +kernel
theorem dX2_behindCuts_3 : decode cX2_behindCuts 3 = .ok (.istore_n 3, 1) := by decide +kernel
theorem dX2_behindCuts_4 : decode cX2_behindCuts 4 = .ok (.iload_n 3, 1) := by decide +kernel
theorem dX2_behindCuts_5 : decode cX2_behindCuts 5 = .ok (.bipush 8, 2) := by decide +kernel
theorem dX2_behindCuts_7 : decode cX2_behindCuts 7 = .ok (.if_icmp .ge 58, 3) := by decide +kernel
theorem dX2_behindCuts_10 : decode cX2_behindCuts 10 = .ok (.iconst 0, 1) := by decide +kernel
theorem dX2_behindCuts_11 : decode cX2_behindCuts 11 = .ok (.istore 4, 2) := by decide +kernel
theorem dX2_behindCuts_13 : decode cX2_behindCuts 13 = .ok (.iload 4, 2) := by decide +kernel
theorem dX2_behindCuts_15 : decode cX2_behindCuts 15 = .ok (.bipush 8, 2) := by decide +kernel
theorem dX2_behindCuts_17 : decode cX2_behindCuts 17 = .ok (.if_icmp .ge 42, 3) := by decide +kernel
theorem dX2_behindCuts_20 : decode cX2_behindCuts 20 = .ok (.aload_n 0, 1) := by decide +kernel
theorem dX2_behindCuts_21 : decode cX2_behindCuts 21 = .ok (.getfield 19, 3) := by decide +kernel
theorem dX2_behindCuts_24 : decode cX2_behindCuts 24 = .ok (.iload 4, 2) := by decide +kernel
theorem dX2_behindCuts_26 : decode cX2_behindCuts 26 = .ok (.baload, 1) := by decide +kernel
theorem dX2_behindCuts_27 : decode cX2_behindCuts 27 = .ok (.ifCond .eq 26, 3) := by decide +kernel
theorem dX2_behindCuts_30 : decode cX2_behindCuts 30 = .ok (.aload_n 0, 1) := by decide +kernel
theorem dX2_behindCuts_31 : decode cX2_behindCuts 31 = .ok (.getfield 23, 3) := by decide +kernel
theorem dX2_behindCuts_34 : decode cX2_behindCuts 34 = .ok (.iload 4, 2) := by decide +kernel
theorem dX2_behindCuts_36 : decode cX2_behindCuts 36 = .ok (.iload_n 2, 1) := by decide +kernel
theorem dX2_behindCuts_37 : decode cX2_behindCuts 37 = .ok (.invokevirtual 41, 3) := by decide +kernel
theorem dX2_behindCuts_40 : decode cX2_behindCuts 40 = .ok (.ifCond .eq 13, 3) := by decide +kernel
theorem dX2_behindCuts_43 : decode cX2_behindCuts 43 = .ok (.aload_n 0, 1) := by decide +kernel
theorem dX2_behindCuts_44 : decode cX2_behindCuts 44 = .ok (.getfield 23, 3) := by decide +kernel
theorem dX2_behindCuts_47 : decode cX2_behindCuts 47 = .ok (.iload 4, 2) := by decide +kernel
theorem dX2_behindCuts_49 : decode cX2_behindCuts 49 = .ok (.invokevirtual 47, 3) := by decide +kernel
theorem dX2_behindCuts_52 : decode cX2_behindCuts 52 = .ok (.istore_n 2, 1) := by decide +kernel
theorem dX2_behindCuts_53 : decode cX2_behindCuts 53 = .ok (.iinc 4 1, 3) := by decide +kernel
theorem dX2_behindCuts_56 : decode cX2_behindCuts 56 = .ok (.goto (-43), 3) := by decide +kernel
theorem dX2_behindCuts_59 : decode cX2_behindCuts 59 = .ok (.iinc 3 1, 3) := by decide +kernel
theorem dX2_behindCuts_62 : decode cX2_behindCuts 62 = .ok (.goto (-58), 3) := by decide +kernel
theorem dX2_behindCuts_65 : decode cX2_behindCuts 65 = .ok (.iload_n 2, 1) := by decide +kernel
theorem dX2_behindCuts_66 : decode cX2_behindCuts 66 = .ok (.ireturn, 1) := by decide +kernel
theorem dX2_nextCut_0 : decode cX2_nextCut 0 = .ok (.sipush 1000, 3) := by decide +kernel
theorem dX2_nextCut_3 : decode cX2_nextCut 3 = .ok (.istore_n 2, 1) := by decide +kernel
theorem dX2_nextCut_4 : decode cX2_nextCut 4 = .ok (.iconst 0, 1) := by decide +kernel
theorem dX2_nextCut_5 : decode cX2_nextCut 5 = .ok (.istore_n 3, 1) := by decide +kernel
theorem dX2_nextCut_6 : decode cX2_nextCut 6 = .ok (.iload_n 3, 1) := by decide +kernel
theorem dX2_nextCut_7 : decode cX2_nextCut 7 = .ok (.bipush 8, 2) := by decide +kernel
theorem dX2_nextCut_9 : decode cX2_nextCut 9 = .ok (.if_icmp .ge 43, 3) := by decide +kernel
theorem dX2_nextCut_12 : decode cX2_nextCut 12 = .ok (.aload_n 0, 1) := by decide +kernel
theorem dX2_nextCut_13 : decode cX2_nextCut 13 = .ok (.getfield 19, 3) := by decide +kernel
theorem dX2_nextCut_16 : decode cX2_nextCut 16 = .ok (.iload_n 3, 1) := by decide +kernel
theorem dX2_nextCut_17 : decode cX2_nextCut 17 = .ok (.baload, 1) := by decide +kernel
theorem dX2_nextCut_18 : decode cX2_nextCut 18 = .ok (.ifCond .eq 28, 3) := by decide +kernel
theorem dX2_nextCut_21 : decode cX2_nextCut 21 = .ok (.aload_n 0, 1) := by decide +kernel
theorem dX2_nextCut_22 : decode cX2_nextCut 22 = .ok (.getfield 23, 3) := by decide +kernel
theorem dX2_nextCut_25 : decode cX2_nextCut 25 = .ok (.iload_n 3, 1) := by decide +kernel
theorem dX2_nextCut_26 : decode cX2_nextCut 26 = .ok (.invokevirtual 50, 3) := by decide +kernel
theorem dX2_nextCut_29 : decode cX2_nextCut 29 = .ok (.iload_n 1, 1) := by decide +kernel
theorem dX2_nextCut_30 : decode cX2_nextCut 30 = .ok (.if_icmp .le 16, 3) := by decide +kernel
theorem dX2_nextCut_33 : decode cX2_nextCut 33 = .ok (.iload_n 2, 1) := by decide +kernel
theorem dX2_nextCut_34 : decode cX2_nextCut 34 = .ok (.aload_n 0, 1) := by decide +kernel
theorem dX2_nextCut_35 : decode cX2_nextCut 35 = .ok (.getfield 23, 3) := by decide +kernel
theorem dX2_nextCut_38 : decode cX2_nextCut 38 = .ok (.iload_n 3, 1) := by decide +kernel
theorem dX2_nextCut_39 : decode cX2_nextCut 39 = .ok (.invokevirtual 50, 3) := by decide +kernel
theorem dX2_nextCut_42 : decode cX2_nextCut 42 = .ok (.invokestatic 53, 3) := by decide +kernel
theorem dX2_nextCut_45 : decode cX2_nextCut 45 = .ok (.istore_n 2, 1) := by decide +kernel
theorem dX2_nextCut_46 : decode cX2_nextCut 46 = .ok (.iinc 3 1, 3) := by decide +kernel
theorem dX2_nextCut_49 : decode cX2_nextCut 49 = .ok (.goto (-43), 3) := by decide +kernel
theorem dX2_nextCut_52 : decode cX2_nextCut 52 = .ok (.iload_n 2, 1) := by decide +kernel
theorem dX2_nextCut_53 : decode cX2_nextCut 53 = .ok (.ireturn, 1) := by decide +kernel
theorem dX2_countedBars_0 : decode cX2_countedBars 0 = .ok (.iconst 0, 1) := by decide +kernel
theorem dX2_countedBars_1 : decode cX2_countedBars 1 = .ok (.istore_n 3, 1) := by decide +kernel
theorem dX2_countedBars_2 : decode cX2_countedBars 2 = .ok (.iload_n 1, 1) := by decide +kernel
theorem dX2_countedBars_3 : decode cX2_countedBars 3 = .ok (.istore 4, 2) := by decide +kernel
theorem dX2_countedBars_5 : decode cX2_countedBars 5 = .ok (.iconst 0, 1) := by decide +kernel
theorem dX2_countedBars_6 : decode cX2_countedBars 6 = .ok (.istore 5, 2) := by decide +kernel
theorem dX2_countedBars_8 : decode cX2_countedBars 8 = .ok (.iload 5, 2) := by decide +kernel
theorem dX2_countedBars_10 : decode cX2_countedBars 10 = .ok (.bipush 8, 2) := by decide +kernel
theorem dX2_countedBars_12 : decode cX2_countedBars 12 = .ok (.if_icmp .gt 51, 3) := by decide +kernel
theorem dX2_countedBars_15 : decode cX2_countedBars 15 = .ok (.iload 4, 2) := by decide +kernel
theorem dX2_countedBars_17 : decode cX2_countedBars 17 = .ok (.iload_n 2, 1) := by decide +kernel
theorem dX2_countedBars_18 : decode cX2_countedBars 18 = .ok (.if_icmp .ge 45, 3) := by decide +kernel
theorem dX2_countedBars_21 : decode cX2_countedBars 21 = .ok (.iload_n 2, 1) := by decide +kernel
theorem dX2_countedBars_22 : decode cX2_countedBars 22 = .ok (.aload_n 0, 1) := by decide +kernel
theorem dX2_countedBars_23 : decode cX2_countedBars 23 = .ok (.iload 4, 2) := by decide +kernel
theorem dX2_countedBars_25 : decode cX2_countedBars 25 = .ok (.invokevirtual 37, 3) := by decide +kernel
theorem dX2_countedBars_28 : decode cX2_countedBars 28 = .ok (.invokestatic 53, 3) := by decide +kernel
theorem dX2_countedBars_31 : decode cX2_countedBars 31 = .ok (.istore 6, 2) := by decide +kernel
theorem dX2_countedBars_33 : decode cX2_countedBars 33 = .ok (.iload_n 2, 1) := by decide +kernel
theorem dX2_countedBars_34 : decode cX2_countedBars 34 = .ok (.aload_n 0, 1) := by decide +kernel
theorem dX2_countedBars_35 : decode cX2_countedBars 35 = .ok (.iload 6, 2) := by decide +kernel
theorem dX2_countedBars_37 : decode cX2_countedBars 37 = .ok (.invokevirtual 59, 3) := by decide +kernel
theorem dX2_countedBars_40 : decode cX2_countedBars 40 = .ok (.invokestatic 53, 3) := by decide +kernel
theorem dX2_countedBars_43 : decode cX2_countedBars 43 = .ok (.istore 7, 2) := by decide +kernel
theorem dX2_countedBars_45 : decode cX2_countedBars 45 = .ok (.iload_n 3, 1) := by decide +kernel
theorem dX2_countedBars_46 : decode cX2_countedBars 46 = .ok (.iload 7, 2) := by decide +kernel
theorem dX2_countedBars_48 : decode cX2_countedBars 48 = .ok (.iload 6, 2) := by decide +kernel
theorem dX2_countedBars_50 : decode cX2_countedBars 50 = .ok (.isub, 1) := by decide +kernel
theorem dX2_countedBars_51 : decode cX2_countedBars 51 = .ok (.iadd, 1) := by decide +kernel
theorem dX2_countedBars_52 : decode cX2_countedBars 52 = .ok (.istore_n 3, 1) := by decide +kernel
theorem dX2_countedBars_53 : decode cX2_countedBars 53 = .ok (.iload 7, 2) := by decide +kernel
theorem dX2_countedBars_55 : decode cX2_countedBars 55 = .ok (.istore 4, 2) := by decide +kernel
theorem dX2_countedBars_57 : decode cX2_countedBars 57 = .ok (.iinc 5 1, 3) := by decide +kernel
theorem dX2_countedBars_60 : decode cX2_countedBars 60 = .ok (.goto (-52), 3) := by decide +kernel
theorem dX2_countedBars_63 : decode cX2_countedBars 63 = .ok (.iload_n 3, 1) := by decide +kernel
theorem dX2_countedBars_64 : decode cX2_countedBars 64 = .ok (.ireturn, 1) := by decide +kernel
theorem dX3_init_0 : decode cX3_init 0 = .ok (.aload_n 0, 1) := by decide +kernel
theorem dX3_init_1 : decode cX3_init 1 = .ok (.invokespecial 3, 3) := by decide +kernel
theorem dX3_init_4 : decode cX3_init 4 = .ok (.aload_n 0, 1) := by decide +kernel
theorem dX3_init_5 : decode cX3_init 5 = .ok (.iconst (-1), 1) := by decide +kernel
theorem dX3_init_6 : decode cX3_init 6 = .ok (.putfield 9, 3) := by decide +kernel
theorem dX3_init_9 : decode cX3_init 9 = .ok (.aload_n 0, 1) := by decide +kernel
theorem dX3_init_10 : decode cX3_init 10 = .ok (.aload_n 1, 1) := by decide +kernel
theorem dX3_init_11 : decode cX3_init 11 = .ok (.putfield 15, 3) := by decide +kernel
theorem dX3_init_14 : decode cX3_init 14 = .ok (.aload_n 0, 1) := by decide +kernel
theorem dX3_init_15 : decode cX3_init 15 = .ok (.new 19, 3) := by decide +kernel
theorem dX3_init_18 : decode cX3_init 18 = .ok (.dup, 1) := by decide +kernel
theorem dX3_init_19 : decode cX3_init 19 = .ok (.aload_n 2, 1) := by decide +kernel
theorem dX3_init_20 : decode cX3_init 20 = .ok (.invokespecial 21, 3) := by decide +kernel
theorem dX3_init_23 : decode cX3_init 23 = .ok (.putfield 24, 3) := by decide +kernel
theorem dX3_init_26 : decode cX3_init 26 = .ok (.return_, 1) := by decide +kernel
theorem dX3_read_0 : decode cX3_read 0 = .ok (.aload_n 0, 1) := by decide +kernel
theorem dX3_read_1 : decode cX3_read 1 = .ok (.iconst 0, 1) := by decide +kernel
theorem dX3_read_2 : decode cX3_read 2 = .ok (.putfield 28, 3) := by decide +kernel
theorem dX3_read_5 : decode cX3_read 5 = .ok (.aload_n 0, 1) := by decide +kernel
theorem dX3_read_6 : decode cX3_read 6 = .ok (.iconst (-1), 1) := by decide +kernel
theorem dX3_read_7 : decode cX3_read 7 = .ok (.putfield 9, 3) := by decide +kernel
theorem dX3_read_10 : decode cX3_read 10 = .ok (.aload_n 0, 1) := by decide +kernel
theorem dX3_read_11 : decode cX3_read 11 = .ok (.aload_n 3, 1) := by decide +kernel
theorem dX3_read_12 : decode cX3_read 12 = .ok (.putfield 15, 3) := by decide +kernel
theorem dX3_read_15 : decode cX3_read 15 = .ok (.aload_n 0, 1) := by decide +kernel
theorem dX3_read_16 : decode cX3_read 16 = .ok (.getfield 15, 3) := by decide +kernel
theorem dX3_read_19 : decode cX3_read 19 = .ok (.invokevirtual 31, 3) := by decide +kernel
theorem dX3_read_22 : decode cX3_read 22 = .ok (.aload_n 0, 1) := by decide +kernel
theorem dX3_read_23 : decode cX3_read 23 = .ok (.getfield 24, 3) := by decide +kernel
theorem dX3_read_26 : decode cX3_read 26 = .ok (.aload_n 1, 1) := by decide +kernel
theorem dX3_read_27 : decode cX3_read 27 = .ok (.iload_n 2, 1) := by decide +kernel
theorem dX3_read_28 : decode cX3_read 28 = .ok (.invokevirtual 36, 3) := by decide +kernel
theorem dX3_read_31 : decode cX3_read 31 = .ok (.aload_n 0, 1) := by decide +kernel
theorem dX3_read_32 : decode cX3_read 32 = .ok (.invokevirtual 40, 3) := by decide +kernel
theorem dX3_read_35 : decode cX3_read 35 = .ok (.ifCond .eq 23, 3) := by decide +kernel
theorem dX3_read_38 : decode cX3_read 38 = .ok (.aload_n 0, 1) := by decide +kernel
theorem dX3_read_39 : decode cX3_read 39 = .ok (.iload_n 2, 1) := by decide +kernel
theorem dX3_read_40 : decode cX3_read 40 = .ok (.invokevirtual 44, 3) := by decide +kernel
theorem dX3_read_43 : decode cX3_read 43 = .ok (.ifCond .eq 15, 3) := by decide +kernel
theorem dX3_read_46 : decode cX3_read 46 = .ok (.aload_n 0, 1) := by decide +kernel
theorem dX3_read_47 : decode cX3_read 47 = .ok (.iload_n 2, 1) := by decide +kernel
theorem dX3_read_48 : decode cX3_read 48 = .ok (.invokevirtual 48, 3) := by decide +kernel
theorem dX3_read_51 : decode cX3_read 51 = .ok (.ifCond .eq 7, 3) := by decide +kernel
theorem dX3_read_54 : decode cX3_read 54 = .ok (.iconst 1, 1) := by decide +kernel
theorem dX3_read_55 : decode cX3_read 55 = .ok (.goto 4, 3) := by decide +kernel
theorem dX3_read_58 : decode cX3_read 58 = .ok (.iconst 0, 1) := by decide +kernel
theorem dX3_read_59 : decode cX3_read 59 = .ok (.ireturn, 1) := by decide +kernel
theorem dX3_fail_0 : decode cX3_fail 0 = .ok (.aload_n 0, 1) := by decide +kernel
theorem dX3_fail_1 : decode cX3_fail 1 = .ok (.iload_n 1, 1) := by decide +kernel
theorem dX3_fail_2 : decode cX3_fail 2 = .ok (.putfield 28, 3) := by decide +kernel
theorem dX3_fail_5 : decode cX3_fail 5 = .ok (.aload_n 0, 1) := by decide +kernel
theorem dX3_fail_6 : decode cX3_fail 6 = .ok (.iload_n 2, 1) := by decide +kernel
theorem dX3_fail_7 : decode cX3_fail 7 = .ok (.putfield 9, 3) := by decide +kernel
theorem dX3_fail_10 : decode cX3_fail 10 = .ok (.iconst 0, 1) := by decide +kernel
theorem dX3_fail_11 : decode cX3_fail 11 = .ok (.ireturn, 1) := by decide +kernel
theorem dX3_readTongues_0 : decode cX3_readTongues 0 = .ok (.aload_n 0, 1) := by decide +kernel
theorem dX3_readTongues_1 : decode cX3_readTongues 1 = .ok (.getfield 24, 3) := by decide +kernel
theorem dX3_readTongues_4 : decode cX3_readTongues 4 = .ok (.ldc 51, 2) := by decide +kernel
theorem dX3_readTongues_6 : decode cX3_readTongues 6 = .ok (.invokevirtual 53, 3) := by decide +kernel
theorem dX3_readTongues_9 : decode cX3_readTongues 9 = .ok (.ifCond .ne 16, 3) := by decide +kernel
theorem dX3_readTongues_12 : decode cX3_readTongues 12 = .ok (.aload_n 0, 1) := by decide +kernel
theorem dX3_readTongues_13 : decode cX3_readTongues 13 = .ok (.iconst 1, 1) := by decide +kernel
theorem dX3_readTongues_14 : decode cX3_readTongues 14 = .ok (.aload_n 0, 1) := by decide +kernel
theorem dX3_readTongues_15 : decode cX3_readTongues 15 = .ok (.getfield 24, 3) := by decide +kernel
theorem dX3_readTongues_18 : decode cX3_readTongues 18 = .ok (.getfield 57, 3) := by decide +kernel
theorem dX3_readTongues_21 : decode cX3_readTongues 21 = .ok (.invokevirtual 60, 3) := by decide +kernel
theorem dX3_readTongues_24 : decode cX3_readTongues 24 = .ok (.ireturn, 1) := by decide +kernel
theorem dX3_readTongues_25 : decode cX3_readTongues 25 = .ok (.aload_n 0, 1) := by decide +kernel
theorem dX3_readTongues_26 : decode cX3_readTongues 26 = .ok (.getfield 24, 3) := by decide +kernel
theorem dX3_readTongues_29 : decode cX3_readTongues 29 = .ok (.invokevirtual 64, 3) := by decide +kernel
theorem dX3_readTongues_32 : decode cX3_readTongues 32 = .ok (.aload_n 0, 1) := by decide +kernel
theorem dX3_readTongues_33 : decode cX3_readTongues 33 = .ok (.iconst 1, 1) := by decide +kernel
theorem dX3_readTongues_34 : decode cX3_readTongues 34 = .ok (.iconst 4, 1) := by decide +kernel
theorem dX3_readTongues_35 : decode cX3_readTongues 35 = .ok (.invokevirtual 67, 3) := by decide +kernel
theorem dX3_readTongues_38 : decode cX3_readTongues 38 = .ok (.ifCond .ne 5, 3) := by decide +kernel
theorem dX3_readTongues_41 : decode cX3_readTongues 41 = .ok (.iconst 0, 1) := by decide +kernel
theorem dX3_readTongues_42 : decode cX3_readTongues 42 = .ok (.ireturn, 1) := by decide +kernel
theorem dX3_readTongues_43 : decode cX3_readTongues 43 = .ok (.aload_n 0, 1) := by decide +kernel
theorem dX3_readTongues_44 : decode cX3_readTongues 44 = .ok (.getfield 15, 3) := by decide +kernel
theorem dX3_readTongues_47 : decode cX3_readTongues 47 = .ok (.aload_n 0, 1) := by decide +kernel
theorem dX3_readTongues_48 : decode cX3_readTongues 48 = .ok (.getfield 70, 3) := by decide +kernel
theorem dX3_readTongues_51 : decode cX3_readTongues 51 = .ok (.putfield 73, 3) := by decide +kernel
theorem dX3_readTongues_54 : decode cX3_readTongues 54 = .ok (.aload_n 0, 1) := by decide +kernel
theorem dX3_readTongues_55 : decode cX3_readTongues 55 = .ok (.invokevirtual 75, 3) := by decide +kernel
theorem dX3_readTongues_58 : decode cX3_readTongues 58 = .ok (.ireturn, 1) := by decide +kernel
theorem dX3_readNumber_0 : decode cX3_readNumber 0 = .ok (.aload_n 0, 1) := by decide +kernel
theorem dX3_readNumber_1 : decode cX3_readNumber 1 = .ok (.getfield 24, 3) := by decide +kernel
theorem dX3_readNumber_4 : decode cX3_readNumber 4 = .ok (.getfield 78, 3) := by decide +kernel
theorem dX3_readNumber_7 : decode cX3_readNumber 7 = .ok (.iconst 3, 1) := by decide +kernel
theorem dX3_readNumber_8 : decode cX3_readNumber 8 = .ok (.if_icmp .eq 16, 3) := by decide +kernel
theorem dX3_readNumber_11 : decode cX3_readNumber 11 = .ok (.aload_n 0, 1) := by decide +kernel
theorem dX3_readNumber_12 : decode cX3_readNumber 12 = .ok (.iconst 1, 1) := by decide +kernel
theorem dX3_readNumber_13 : decode cX3_readNumber 13 = .ok (.aload_n 0, 1) := by decide +kernel
theorem dX3_readNumber_14 : decode cX3_readNumber 14 = .ok (.getfield 24, 3) := by decide +kernel
theorem dX3_readNumber_17 : decode cX3_readNumber 17 = .ok (.getfield 57, 3) := by decide +kernel
theorem dX3_readNumber_20 : decode cX3_readNumber 20 = .ok (.invokevirtual 60, 3) := by decide +kernel
theorem dX3_readNumber_23 : decode cX3_readNumber 23 = .ok (.ireturn, 1) := by decide +kernel
theorem dX3_readNumber_24 : decode cX3_readNumber 24 = .ok (.aload_n 0, 1) := by decide +kernel
theorem dX3_readNumber_25 : decode cX3_readNumber 25 = .ok (.aload_n 0, 1) := by decide +kernel
theorem dX3_readNumber_26 : decode cX3_readNumber 26 = .ok (.getfield 24, 3) := by decide +kernel
theorem dX3_readNumber_29 : decode cX3_readNumber 29 = .ok (.getfield 81, 3) := by decide +kernel
theorem dX3_readNumber_32 : decode cX3_readNumber 32 = .ok (.putfield 70, 3) := by decide +kernel
theorem dX3_readNumber_35 : decode cX3_readNumber 35 = .ok (.aload_n 0, 1) := by decide +kernel
theorem dX3_readNumber_36 : decode cX3_readNumber 36 = .ok (.aload_n 0, 1) := by decide +kernel
theorem dX3_readNumber_37 : decode cX3_readNumber 37 = .ok (.getfield 24, 3) := by decide +kernel
theorem dX3_readNumber_40 : decode cX3_readNumber 40 = .ok (.getfield 57, 3) := by decide +kernel
theorem dX3_readNumber_43 : decode cX3_readNumber 43 = .ok (.putfield 84, 3) := by decide +kernel
theorem dX3_readNumber_46 : decode cX3_readNumber 46 = .ok (.aload_n 0, 1) := by decide +kernel
theorem dX3_readNumber_47 : decode cX3_readNumber 47 = .ok (.getfield 70, 3) := by decide +kernel
theorem dX3_readNumber_50 : decode cX3_readNumber 50 = .ok (.iload_n 1, 1) := by decide +kernel
theorem dX3_readNumber_51 : decode cX3_readNumber 51 = .ok (.if_icmp .lt 11, 3) := by decide +kernel
theorem dX3_readNumber_54 : decode cX3_readNumber 54 = .ok (.aload_n 0, 1) := by decide +kernel
theorem dX3_readNumber_55 : decode cX3_readNumber 55 = .ok (.getfield 70, 3) := by decide +kernel
theorem dX3_readNumber_58 : decode cX3_readNumber 58 = .ok (.iload_n 2, 1) := by decide +kernel
theorem dX3_readNumber_59 : decode cX3_readNumber 59 = .ok (.if_icmp .le 13, 3) := by decide +kernel
theorem dX3_readNumber_62 : decode cX3_readNumber 62 = .ok (.aload_n 0, 1) := by decide +kernel
theorem dX3_readNumber_63 : decode cX3_readNumber 63 = .ok (.iconst 2, 1) := by decide +kernel
theorem dX3_readNumber_64 : decode cX3_readNumber 64 = .ok (.aload_n 0, 1) := by decide +kernel
theorem dX3_readNumber_65 : decode cX3_readNumber 65 = .ok (.getfield 84, 3) := by decide +kernel
theorem dX3_readNumber_68 : decode cX3_readNumber 68 = .ok (.invokevirtual 60, 3) := by decide +kernel
theorem dX3_readNumber_71 : decode cX3_readNumber 71 = .ok (.ireturn, 1) := by decide +kernel
theorem dX3_readNumber_72 : decode cX3_readNumber 72 = .ok (.aload_n 0, 1) := by decide +kernel
theorem dX3_readNumber_73 : decode cX3_readNumber 73 = .ok (.getfield 24, 3) := by decide +kernel
theorem dX3_readNumber_76 : decode cX3_readNumber 76 = .ok (.invokevirtual 64, 3) := by decide +kernel
theorem dX3_readNumber_79 : decode cX3_readNumber 79 = .ok (.iconst 1, 1) := by decide +kernel
theorem dX3_readNumber_80 : decode cX3_readNumber 80 = .ok (.ireturn, 1) := by decide +kernel
theorem dX3_readSemicolon_0 : decode cX3_readSemicolon 0 = .ok (.aload_n 0, 1) := by decide +kernel
theorem dX3_readSemicolon_1 : decode cX3_readSemicolon 1 = .ok (.getfield 24, 3) := by decide +kernel
theorem dX3_readSemicolon_4 : decode cX3_readSemicolon 4 = .ok (.getfield 78, 3) := by decide +kernel
theorem dX3_readSemicolon_7 : decode cX3_readSemicolon 7 = .ok (.iconst 5, 1) := by decide +kernel
theorem dX3_readSemicolon_8 : decode cX3_readSemicolon 8 = .ok (.if_icmp .eq 16, 3) := by decide +kernel
theorem dX3_readSemicolon_11 : decode cX3_readSemicolon 11 = .ok (.aload_n 0, 1) := by decide +kernel
theorem dX3_readSemicolon_12 : decode cX3_readSemicolon 12 = .ok (.iconst 1, 1) := by decide +kernel
theorem dX3_readSemicolon_13 : decode cX3_readSemicolon 13 = .ok (.aload_n 0, 1) := by decide +kernel
theorem dX3_readSemicolon_14 : decode cX3_readSemicolon 14 = .ok (.getfield 24, 3) := by decide +kernel
theorem dX3_readSemicolon_17 : decode cX3_readSemicolon 17 = .ok (.getfield 57, 3) := by decide +kernel
theorem dX3_readSemicolon_20 : decode cX3_readSemicolon 20 = .ok (.invokevirtual 60, 3) := by decide +kernel
theorem dX3_readSemicolon_23 : decode cX3_readSemicolon 23 = .ok (.ireturn, 1) := by decide +kernel
theorem dX3_readSemicolon_24 : decode cX3_readSemicolon 24 = .ok (.aload_n 0, 1) := by decide +kernel
theorem dX3_readSemicolon_25 : decode cX3_readSemicolon 25 = .ok (.getfield 24, 3) := by decide +kernel
theorem dX3_readSemicolon_28 : decode cX3_readSemicolon 28 = .ok (.invokevirtual 64, 3) := by decide +kernel
theorem dX3_readSemicolon_31 : decode cX3_readSemicolon 31 = .ok (.iconst 1, 1) := by decide +kernel
theorem dX3_readSemicolon_32 : decode cX3_readSemicolon 32 = .ok (.ireturn, 1) := by decide +kernel
theorem dX3_readSettings_0 : decode cX3_readSettings 0 = .ok (.iconst 0, 1) := by decide +kernel
theorem dX3_readSettings_1 : decode cX3_readSettings 1 = .ok (.istore_n 2, 1) := by decide +kernel
theorem dX3_readSettings_2 : decode cX3_readSettings 2 = .ok (.iload_n 2, 1) := by decide +kernel
theorem dX3_readSettings_3 : decode cX3_readSettings 3 = .ok (.iload_n 1, 1) := by decide +kernel
theorem dX3_readSettings_4 : decode cX3_readSettings 4 = .ok (.if_icmp .ge 97, 3) := by decide +kernel
theorem dX3_readSettings_7 : decode cX3_readSettings 7 = .ok (.aload_n 0, 1) := by decide +kernel
theorem dX3_readSettings_8 : decode cX3_readSettings 8 = .ok (.getfield 24, 3) := by decide +kernel
theorem dX3_readSettings_11 : decode cX3_readSettings 11 = .ok (.ldc 87, 2) := by decide +kernel
theorem dX3_readSettings_13 : decode cX3_readSettings 13 = .ok (.invokevirtual 53, 3) := by decide +kernel
theorem dX3_readSettings_16 : decode cX3_readSettings 16 = .ok (.ifCond .eq 21, 3) := by decide +kernel
theorem dX3_readSettings_19 : decode cX3_readSettings 19 = .ok (.aload_n 0, 1) := by decide +kernel
theorem dX3_readSettings_20 : decode cX3_readSettings 20 = .ok (.aload_n 0, 1) := by decide +kernel
theorem dX3_readSettings_21 : decode cX3_readSettings 21 = .ok (.getfield 15, 3) := by decide +kernel
theorem dX3_readSettings_24 : decode cX3_readSettings 24 = .ok (.getfield 89, 3) := by decide +kernel
theorem dX3_readSettings_27 : decode cX3_readSettings 27 = .ok (.iconst 4, 1) := by decide +kernel
theorem dX3_readSettings_28 : decode cX3_readSettings 28 = .ok (.bipush 40, 2) := by decide +kernel
theorem dX3_readSettings_30 : decode cX3_readSettings 30 = .ok (.invokevirtual 93, 3) := by decide +kernel
theorem dX3_readSettings_33 : decode cX3_readSettings 33 = .ok (.istore_n 3, 1) := by decide +kernel
theorem dX3_readSettings_34 : decode cX3_readSettings 34 = .ok (.goto 55, 3) := by decide +kernel
theorem dX3_readSettings_37 : decode cX3_readSettings 37 = .ok (.aload_n 0, 1) := by decide +kernel
theorem dX3_readSettings_38 : decode cX3_readSettings 38 = .ok (.getfield 24, 3) := by decide +kernel
theorem dX3_readSettings_41 : decode cX3_readSettings 41 = .ok (.ldc 97, 2) := by decide +kernel
theorem dX3_readSettings_43 : decode cX3_readSettings 43 = .ok (.invokevirtual 53, 3) := by decide +kernel
theorem dX3_readSettings_46 : decode cX3_readSettings 46 = .ok (.ifCond .eq 21, 3) := by decide +kernel
theorem dX3_readSettings_49 : decode cX3_readSettings 49 = .ok (.aload_n 0, 1) := by decide +kernel
theorem dX3_readSettings_50 : decode cX3_readSettings 50 = .ok (.aload_n 0, 1) := by decide +kernel
theorem dX3_readSettings_51 : decode cX3_readSettings 51 = .ok (.getfield 15, 3) := by decide +kernel
theorem dX3_readSettings_54 : decode cX3_readSettings 54 = .ok (.getfield 99, 3) := by decide +kernel
theorem dX3_readSettings_57 : decode cX3_readSettings 57 = .ok (.iconst 1, 1) := by decide +kernel
theorem dX3_readSettings_58 : decode cX3_readSettings 58 = .ok (.bipush 20, 2) := by decide +kernel
theorem dX3_readSettings_60 : decode cX3_readSettings 60 = .ok (.invokevirtual 93, 3) := by decide +kernel
theorem dX3_readSettings_63 : decode cX3_readSettings 63 = .ok (.istore_n 3, 1) := by decide +kernel
theorem dX3_readSettings_64 : decode cX3_readSettings 64 = .ok (.goto 25, 3) := by decide +kernel
theorem dX3_readSettings_67 : decode cX3_readSettings 67 = .ok (.aload_n 0, 1) := by decide +kernel
theorem dX3_readSettings_68 : decode cX3_readSettings 68 = .ok (.getfield 24, 3) := by decide +kernel
theorem dX3_readSettings_71 : decode cX3_readSettings 71 = .ok (.ldc 102, 2) := by decide +kernel
theorem dX3_readSettings_73 : decode cX3_readSettings 73 = .ok (.invokevirtual 53, 3) := by decide +kernel
theorem dX3_readSettings_76 : decode cX3_readSettings 76 = .ok (.ifCond .eq 11, 3) := by decide +kernel
theorem dX3_readSettings_79 : decode cX3_readSettings 79 = .ok (.aload_n 0, 1) := by decide +kernel
theorem dX3_readSettings_80 : decode cX3_readSettings 80 = .ok (.invokevirtual 104, 3) := by decide +kernel
theorem dX3_readSettings_83 : decode cX3_readSettings 83 = .ok (.istore_n 3, 1) := by decide +kernel
theorem dX3_readSettings_84 : decode cX3_readSettings 84 = .ok (.goto 5, 3) := by decide +kernel
theorem dX3_readSettings_87 : decode cX3_readSettings 87 = .ok (.iconst 1, 1) := by decide +kernel
theorem dX3_readSettings_88 : decode cX3_readSettings 88 = .ok (.ireturn, 1) := by decide +kernel
theorem dX3_readSettings_89 : decode cX3_readSettings 89 = .ok (.iload_n 3, 1) := by decide +kernel
theorem dX3_readSettings_90 : decode cX3_readSettings 90 = .ok (.ifCond .ne 5, 3) := by decide +kernel
theorem dX3_readSettings_93 : decode cX3_readSettings 93 = .ok (.iconst 0, 1) := by decide +kernel
theorem dX3_readSettings_94 : decode cX3_readSettings 94 = .ok (.ireturn, 1) := by decide +kernel
theorem dX3_readSettings_95 : decode cX3_readSettings 95 = .ok (.iinc 2 1, 3) := by decide +kernel
theorem dX3_readSettings_98 : decode cX3_readSettings 98 = .ok (.goto (-96), 3) := by decide +kernel
theorem dX3_readSettings_101 : decode cX3_readSettings 101 = .ok (.iconst 1, 1) := by decide +kernel
