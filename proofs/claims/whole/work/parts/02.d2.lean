theorem dX5_slotOf_19 : decode cX5_slotOf 19 = .ok (.iconst (-1), 1) := by decide +kernel
theorem dX5_slotOf_20 : decode cX5_slotOf 20 = .ok (.ireturn, 1) := by decide +kernel
theorem dX5_slotOf_21 : decode cX5_slotOf 21 = .ok (.iload_n 0, 1) := by decide +kernel
theorem dX5_slotOf_22 : decode cX5_slotOf 22 = .ok (.iconst 4, 1) := by decide +kernel
theorem dX5_slotOf_23 : decode cX5_slotOf 23 = .ok (.imul, 1) := by decide +kernel
theorem dX5_slotOf_24 : decode cX5_slotOf 24 = .ok (.iload_n 1, 1) := by decide +kernel
theorem dX5_slotOf_25 : decode cX5_slotOf 25 = .ok (.iadd, 1) := by decide +kernel
theorem dX5_slotOf_26 : decode cX5_slotOf 26 = .ok (.ireturn, 1) := by decide +kernel
theorem dX5_cutTakes_0 : decode cX5_cutTakes 0 = .ok (.aload_n 0, 1) := by decide +kernel
theorem dX5_cutTakes_1 : decode cX5_cutTakes 1 = .ok (.iload_n 1, 1) := by decide +kernel
theorem dX5_cutTakes_2 : decode cX5_cutTakes 2 = .ok (.invokevirtual 94, 3) := by decide +kernel
theorem dX5_cutTakes_5 : decode cX5_cutTakes 5 = .ok (.ifCond .eq 27, 3) := by decide +kernel
theorem dX5_cutTakes_8 : decode cX5_cutTakes 8 = .ok (.aload_n 0, 1) := by decide +kernel
theorem dX5_cutTakes_9 : decode cX5_cutTakes 9 = .ok (.getfield 22, 3) := by decide +kernel
theorem dX5_cutTakes_12 : decode cX5_cutTakes 12 = .ok (.iload_n 1, 1) := by decide +kernel
theorem dX5_cutTakes_13 : decode cX5_cutTakes 13 = .ok (.iaload, 1) := by decide +kernel
theorem dX5_cutTakes_14 : decode cX5_cutTakes 14 = .ok (.iload_n 2, 1) := by decide +kernel
theorem dX5_cutTakes_15 : decode cX5_cutTakes 15 = .ok (.if_icmp .gt 17, 3) := by decide +kernel
theorem dX5_cutTakes_18 : decode cX5_cutTakes 18 = .ok (.iload_n 2, 1) := by decide +kernel
theorem dX5_cutTakes_19 : decode cX5_cutTakes 19 = .ok (.aload_n 0, 1) := by decide +kernel
theorem dX5_cutTakes_20 : decode cX5_cutTakes 20 = .ok (.getfield 25, 3) := by decide +kernel
theorem dX5_cutTakes_23 : decode cX5_cutTakes 23 = .ok (.iload_n 1, 1) := by decide +kernel
theorem dX5_cutTakes_24 : decode cX5_cutTakes 24 = .ok (.iaload, 1) := by decide +kernel
theorem dX5_cutTakes_25 : decode cX5_cutTakes 25 = .ok (.if_icmp .ge 7, 3) := by decide +kernel
theorem dX5_cutTakes_28 : decode cX5_cutTakes 28 = .ok (.iconst 1, 1) := by decide +kernel
theorem dX5_cutTakes_29 : decode cX5_cutTakes 29 = .ok (.goto 4, 3) := by decide +kernel
theorem dX5_cutTakes_32 : decode cX5_cutTakes 32 = .ok (.iconst 0, 1) := by decide +kernel
theorem dX5_cutTakes_33 : decode cX5_cutTakes 33 = .ok (.ireturn, 1) := by decide +kernel
theorem dX5_cutFirst_0 : decode cX5_cutFirst 0 = .ok (.aload_n 0, 1) := by decide +kernel
theorem dX5_cutFirst_1 : decode cX5_cutFirst 1 = .ok (.iload_n 1, 1) := by decide +kernel
theorem dX5_cutFirst_2 : decode cX5_cutFirst 2 = .ok (.invokevirtual 94, 3) := by decide +kernel
theorem dX5_cutFirst_5 : decode cX5_cutFirst 5 = .ok (.ifCond .eq 12, 3) := by decide +kernel
theorem dX5_cutFirst_8 : decode cX5_cutFirst 8 = .ok (.aload_n 0, 1) := by decide +kernel
theorem dX5_cutFirst_9 : decode cX5_cutFirst 9 = .ok (.getfield 22, 3) := by decide +kernel
theorem dX5_cutFirst_12 : decode cX5_cutFirst 12 = .ok (.iload_n 1, 1) := by decide +kernel
theorem dX5_cutFirst_13 : decode cX5_cutFirst 13 = .ok (.iaload, 1) := by decide +kernel
theorem dX5_cutFirst_14 : decode cX5_cutFirst 14 = .ok (.goto 6, 3) := by decide +kernel
theorem dX5_cutFirst_17 : decode cX5_cutFirst 17 = .ok (.sipush 1000, 3) := by decide +kernel
theorem dX5_cutFirst_20 : decode cX5_cutFirst 20 = .ok (.ireturn, 1) := by decide +kernel
theorem dX5_cutBehind_0 : decode cX5_cutBehind 0 = .ok (.aload_n 0, 1) := by decide +kernel
theorem dX5_cutBehind_1 : decode cX5_cutBehind 1 = .ok (.iload_n 1, 1) := by decide +kernel
theorem dX5_cutBehind_2 : decode cX5_cutBehind 2 = .ok (.invokevirtual 94, 3) := by decide +kernel
theorem dX5_cutBehind_5 : decode cX5_cutBehind 5 = .ok (.ifCond .eq 12, 3) := by decide +kernel
theorem dX5_cutBehind_8 : decode cX5_cutBehind 8 = .ok (.aload_n 0, 1) := by decide +kernel
theorem dX5_cutBehind_9 : decode cX5_cutBehind 9 = .ok (.getfield 25, 3) := by decide +kernel
theorem dX5_cutBehind_12 : decode cX5_cutBehind 12 = .ok (.iload_n 1, 1) := by decide +kernel
theorem dX5_cutBehind_13 : decode cX5_cutBehind 13 = .ok (.iaload, 1) := by decide +kernel
theorem dX5_cutBehind_14 : decode cX5_cutBehind 14 = .ok (.goto 4, 3) := by decide +kernel
theorem dX5_cutBehind_17 : decode cX5_cutBehind 17 = .ok (.iconst 0, 1) := by decide +kernel
theorem dX5_cutBehind_18 : decode cX5_cutBehind 18 = .ok (.ireturn, 1) := by decide +kernel
theorem dX6_init_0 : decode cX6_init 0 = .ok (.aload_n 0, 1) := by decide +kernel
theorem dX6_init_1 : decode cX6_init 1 = .ok (.invokespecial 3, 3) := by decide +kernel
theorem dX6_init_4 : decode cX6_init 4 = .ok (.aload_n 0, 1) := by decide +kernel
theorem dX6_init_5 : decode cX6_init 5 = .ok (.sipush 1500, 3) := by decide +kernel
theorem dX6_init_8 : decode cX6_init 8 = .ok (.newarray .byte, 2) := by decide +kernel
theorem dX6_init_10 : decode cX6_init 10 = .ok (.putfield 9, 3) := by decide +kernel
theorem dX6_init_13 : decode cX6_init 13 = .ok (.return_, 1) := by decide +kernel
theorem dX6_hasRoom_0 : decode cX6_hasRoom 0 = .ok (.aload_n 0, 1) := by decide +kernel
theorem dX6_hasRoom_1 : decode cX6_hasRoom 1 = .ok (.getfield 15, 3) := by decide +kernel
theorem dX6_hasRoom_4 : decode cX6_hasRoom 4 = .ok (.bipush 20, 2) := by decide +kernel
theorem dX6_hasRoom_6 : decode cX6_hasRoom 6 = .ok (.iadd, 1) := by decide +kernel
theorem dX6_hasRoom_7 : decode cX6_hasRoom 7 = .ok (.sipush 1500, 3) := by decide +kernel
theorem dX6_hasRoom_10 : decode cX6_hasRoom 10 = .ok (.if_icmp .gt 7, 3) := by decide +kernel
theorem dX6_hasRoom_13 : decode cX6_hasRoom 13 = .ok (.iconst 1, 1) := by decide +kernel
theorem dX6_hasRoom_14 : decode cX6_hasRoom 14 = .ok (.goto 4, 3) := by decide +kernel
theorem dX6_hasRoom_17 : decode cX6_hasRoom 17 = .ok (.iconst 0, 1) := by decide +kernel
theorem dX6_hasRoom_18 : decode cX6_hasRoom 18 = .ok (.ireturn, 1) := by decide +kernel
theorem dX6_holds_0 : decode cX6_holds 0 = .ok (.iload_n 1, 1) := by decide +kernel
theorem dX6_holds_1 : decode cX6_holds 1 = .ok (.ifCond .lt 15, 3) := by decide +kernel
theorem dX6_holds_4 : decode cX6_holds 4 = .ok (.iload_n 1, 1) := by decide +kernel
theorem dX6_holds_5 : decode cX6_holds 5 = .ok (.aload_n 0, 1) := by decide +kernel
theorem dX6_holds_6 : decode cX6_holds 6 = .ok (.getfield 15, 3) := by decide +kernel
theorem dX6_holds_9 : decode cX6_holds 9 = .ok (.if_icmp .gt 7, 3) := by decide +kernel
theorem dX6_holds_12 : decode cX6_holds 12 = .ok (.iconst 1, 1) := by decide +kernel
theorem dX6_holds_13 : decode cX6_holds 13 = .ok (.goto 4, 3) := by decide +kernel
theorem dX6_holds_16 : decode cX6_holds 16 = .ok (.iconst 0, 1) := by decide +kernel
theorem dX6_holds_17 : decode cX6_holds 17 = .ok (.ireturn, 1) := by decide +kernel
theorem dX6_append_0 : decode cX6_append 0 = .ok (.bipush 24, 2) := by decide +kernel
theorem dX6_append_2 : decode cX6_append 2 = .ok (.istore_n 2, 1) := by decide +kernel
theorem dX6_append_3 : decode cX6_append 3 = .ok (.iload_n 2, 1) := by decide +kernel
theorem dX6_append_4 : decode cX6_append 4 = .ok (.ifCond .lt 42, 3) := by decide +kernel
theorem dX6_append_7 : decode cX6_append 7 = .ok (.aload_n 0, 1) := by decide +kernel
theorem dX6_append_8 : decode cX6_append 8 = .ok (.getfield 15, 3) := by decide +kernel
theorem dX6_append_11 : decode cX6_append 11 = .ok (.sipush 1500, 3) := by decide +kernel
theorem dX6_append_14 : decode cX6_append 14 = .ok (.if_icmp .ge 32, 3) := by decide +kernel
theorem dX6_append_17 : decode cX6_append 17 = .ok (.aload_n 0, 1) := by decide +kernel
theorem dX6_append_18 : decode cX6_append 18 = .ok (.getfield 9, 3) := by decide +kernel
theorem dX6_append_21 : decode cX6_append 21 = .ok (.aload_n 0, 1) := by decide +kernel
theorem dX6_append_22 : decode cX6_append 22 = .ok (.getfield 15, 3) := by decide +kernel
theorem dX6_append_25 : decode cX6_append 25 = .ok (.iload_n 1, 1) := by decide +kernel
theorem dX6_append_26 : decode cX6_append 26 = .ok (.iload_n 2, 1) := by decide +kernel
theorem dX6_append_27 : decode cX6_append 27 = .ok (.ishr, 1) := by decide +kernel
theorem dX6_append_28 : decode cX6_append 28 = .ok (.i2b, 1) := by decide +kernel
theorem dX6_append_29 : decode cX6_append 29 = .ok (.bastore, 1) := by decide +kernel
theorem dX6_append_30 : decode cX6_append 30 = .ok (.aload_n 0, 1) := by decide +kernel
theorem dX6_append_31 : decode cX6_append 31 = .ok (.dup, 1) := by decide +kernel
theorem dX6_append_32 : decode cX6_append 32 = .ok (.getfield 15, 3) := by decide +kernel
theorem dX6_append_35 : decode cX6_append 35 = .ok (.iconst 1, 1) := by decide +kernel
theorem dX6_append_36 : decode cX6_append 36 = .ok (.iadd, 1) := by decide +kernel
theorem dX6_append_37 : decode cX6_append 37 = .ok (.putfield 15, 3) := by decide +kernel
theorem dX6_append_40 : decode cX6_append 40 = .ok (.iinc 2 (-8), 3) := by decide +kernel
theorem dX6_append_43 : decode cX6_append 43 = .ok (.goto (-40), 3) := by decide +kernel
theorem dX6_append_46 : decode cX6_append 46 = .ok (.return_, 1) := by decide +kernel
theorem dX6_clear_0 : decode cX6_clear 0 = .ok (.aload_n 0, 1) := by decide +kernel
theorem dX6_clear_1 : decode cX6_clear 1 = .ok (.iconst 0, 1) := by decide +kernel
theorem dX6_clear_2 : decode cX6_clear 2 = .ok (.putfield 15, 3) := by decide +kernel
theorem dX6_clear_5 : decode cX6_clear 5 = .ok (.return_, 1) := by decide +kernel
theorem dX7_init_0 : decode cX7_init 0 = .ok (.aload_n 0, 1) := by decide +kernel
theorem dX7_init_1 : decode cX7_init 1 = .ok (.invokespecial 3, 3) := by decide +kernel
theorem dX7_init_4 : decode cX7_init 4 = .ok (.aload_n 0, 1) := by decide +kernel
theorem dX7_init_5 : decode cX7_init 5 = .ok (.bipush 12, 2) := by decide +kernel
theorem dX7_init_7 : decode cX7_init 7 = .ok (.newarray .int, 2) := by decide +kernel
theorem dX7_init_9 : decode cX7_init 9 = .ok (.putfield 9, 3) := by decide +kernel
theorem dX7_init_12 : decode cX7_init 12 = .ok (.aload_n 0, 1) := by decide +kernel
theorem dX7_init_13 : decode cX7_init 13 = .ok (.aload_n 1, 1) := by decide +kernel
theorem dX7_init_14 : decode cX7_init 14 = .ok (.putfield 15, 3) := by decide +kernel
theorem dX7_init_17 : decode cX7_init 17 = .ok (.return_, 1) := by decide +kernel
theorem dX7_setString_0 : decode cX7_setString 0 = .ok (.aload_n 0, 1) := by decide +kernel
theorem dX7_setString_1 : decode cX7_setString 1 = .ok (.aload_n 1, 1) := by decide +kernel
theorem dX7_setString_2 : decode cX7_setString 2 = .ok (.putfield 15, 3) := by decide +kernel
theorem dX7_setString_5 : decode cX7_setString 5 = .ok (.aload_n 0, 1) := by decide +kernel
theorem dX7_setString_6 : decode cX7_setString 6 = .ok (.iload_n 2, 1) := by decide +kernel
theorem dX7_setString_7 : decode cX7_setString 7 = .ok (.putfield 19, 3) := by decide +kernel
theorem dX7_setString_10 : decode cX7_setString 10 = .ok (.aload_n 0, 1) := by decide +kernel
theorem dX7_setString_11 : decode cX7_setString 11 = .ok (.iload_n 3, 1) := by decide +kernel
theorem dX7_setString_12 : decode cX7_setString 12 = .ok (.putfield 23, 3) := by decide +kernel
theorem dX7_setString_15 : decode cX7_setString 15 = .ok (.aload_n 0, 1) := by decide +kernel
theorem dX7_setString_16 : decode cX7_setString 16 = .ok (.iload 4, 2) := by decide +kernel
theorem dX7_setString_18 : decode cX7_setString 18 = .ok (.putfield 26, 3) := by decide +kernel
theorem dX7_setString_21 : decode cX7_setString 21 = .ok (.return_, 1) := by decide +kernel
theorem dX7_setRowEnd_0 : decode cX7_setRowEnd 0 = .ok (.iload_n 1, 1) := by decide +kernel
theorem dX7_setRowEnd_1 : decode cX7_setRowEnd 1 = .ok (.ifCond .lt 16, 3) := by decide +kernel
theorem dX7_setRowEnd_4 : decode cX7_setRowEnd 4 = .ok (.iload_n 1, 1) := by decide +kernel
theorem dX7_setRowEnd_5 : decode cX7_setRowEnd 5 = .ok (.bipush 12, 2) := by decide +kernel
theorem dX7_setRowEnd_7 : decode cX7_setRowEnd 7 = .ok (.if_icmp .ge 10, 3) := by decide +kernel
theorem dX7_setRowEnd_10 : decode cX7_setRowEnd 10 = .ok (.aload_n 0, 1) := by decide +kernel
theorem dX7_setRowEnd_11 : decode cX7_setRowEnd 11 = .ok (.getfield 9, 3) := by decide +kernel
theorem dX7_setRowEnd_14 : decode cX7_setRowEnd 14 = .ok (.iload_n 1, 1) := by decide +kernel
theorem dX7_setRowEnd_15 : decode cX7_setRowEnd 15 = .ok (.iload_n 2, 1) := by decide +kernel
theorem dX7_setRowEnd_16 : decode cX7_setRowEnd 16 = .ok (.iastore, 1) := by decide +kernel
theorem dX7_setRowEnd_17 : decode cX7_setRowEnd 17 = .ok (.return_, 1) := by decide +kernel
theorem dX7_rowBegin_0 : decode cX7_rowBegin 0 = .ok (.iload_n 1, 1) := by decide +kernel
theorem dX7_rowBegin_1 : decode cX7_rowBegin 1 = .ok (.ifCond .le 22, 3) := by decide +kernel
theorem dX7_rowBegin_4 : decode cX7_rowBegin 4 = .ok (.iload_n 1, 1) := by decide +kernel
theorem dX7_rowBegin_5 : decode cX7_rowBegin 5 = .ok (.bipush 12, 2) := by decide +kernel
theorem dX7_rowBegin_7 : decode cX7_rowBegin 7 = .ok (.if_icmp .ge 16, 3) := by decide +kernel
theorem dX7_rowBegin_10 : decode cX7_rowBegin 10 = .ok (.aload_n 0, 1) := by decide +kernel
theorem dX7_rowBegin_11 : decode cX7_rowBegin 11 = .ok (.getfield 9, 3) := by decide +kernel
theorem dX7_rowBegin_14 : decode cX7_rowBegin 14 = .ok (.iload_n 1, 1) := by decide +kernel
theorem dX7_rowBegin_15 : decode cX7_rowBegin 15 = .ok (.iconst 1, 1) := by decide +kernel
theorem dX7_rowBegin_16 : decode cX7_rowBegin 16 = .ok (.isub, 1) := by decide +kernel
theorem dX7_rowBegin_17 : decode cX7_rowBegin 17 = .ok (.iaload, 1) := by decide +kernel
theorem dX7_rowBegin_18 : decode cX7_rowBegin 18 = .ok (.iconst 1, 1) := by decide +kernel
theorem dX7_rowBegin_19 : decode cX7_rowBegin 19 = .ok (.iadd, 1) := by decide +kernel
theorem dX7_rowBegin_20 : decode cX7_rowBegin 20 = .ok (.goto 4, 3) := by decide +kernel
theorem dX7_rowBegin_23 : decode cX7_rowBegin 23 = .ok (.iconst 0, 1) := by decide +kernel
theorem dX7_rowBegin_24 : decode cX7_rowBegin 24 = .ok (.ireturn, 1) := by decide +kernel
theorem dX7_rowLength_0 : decode cX7_rowLength 0 = .ok (.iload_n 1, 1) := by decide +kernel
theorem dX7_rowLength_1 : decode cX7_rowLength 1 = .ok (.ifCond .lt 28, 3) := by decide +kernel
theorem dX7_rowLength_4 : decode cX7_rowLength 4 = .ok (.iload_n 1, 1) := by decide +kernel
theorem dX7_rowLength_5 : decode cX7_rowLength 5 = .ok (.bipush 12, 2) := by decide +kernel
theorem dX7_rowLength_7 : decode cX7_rowLength 7 = .ok (.if_icmp .ge 22, 3) := by decide +kernel
theorem dX7_rowLength_10 : decode cX7_rowLength 10 = .ok (.iconst 0, 1) := by decide +kernel
theorem dX7_rowLength_11 : decode cX7_rowLength 11 = .ok (.aload_n 0, 1) := by decide +kernel
theorem dX7_rowLength_12 : decode cX7_rowLength 12 = .ok (.getfield 9, 3) := by decide +kernel
theorem dX7_rowLength_15 : decode cX7_rowLength 15 = .ok (.iload_n 1, 1) := by decide +kernel
theorem dX7_rowLength_16 : decode cX7_rowLength 16 = .ok (.iaload, 1) := by decide +kernel
theorem dX7_rowLength_17 : decode cX7_rowLength 17 = .ok (.aload_n 0, 1) := by decide +kernel
theorem dX7_rowLength_18 : decode cX7_rowLength 18 = .ok (.iload_n 1, 1) := by decide +kernel
theorem dX7_rowLength_19 : decode cX7_rowLength 19 = .ok (.invokevirtual 30, 3) := by decide +kernel
theorem dX7_rowLength_22 : decode cX7_rowLength 22 = .ok (.isub, 1) := by decide +kernel
theorem dX7_rowLength_23 : decode cX7_rowLength 23 = .ok (.invokestatic 34, 3) := by decide +kernel
theorem dX7_rowLength_26 : decode cX7_rowLength 26 = .ok (.goto 4, 3) := by decide +kernel
theorem dX7_rowLength_29 : decode cX7_rowLength 29 = .ok (.iconst 0, 1) := by decide +kernel
theorem dX7_rowLength_30 : decode cX7_rowLength 30 = .ok (.ireturn, 1) := by decide +kernel
theorem dX7_signsOf_0 : decode cX7_signsOf 0 = .ok (.iload_n 1, 1) := by decide +kernel
theorem dX7_signsOf_1 : decode cX7_signsOf 1 = .ok (.ifCond .lt 11, 3) := by decide +kernel
theorem dX7_signsOf_4 : decode cX7_signsOf 4 = .ok (.iload_n 1, 1) := by decide +kernel
theorem dX7_signsOf_5 : decode cX7_signsOf 5 = .ok (.aload_n 0, 1) := by decide +kernel
theorem dX7_signsOf_6 : decode cX7_signsOf 6 = .ok (.getfield 40, 3) := by decide +kernel
theorem dX7_signsOf_9 : decode cX7_signsOf 9 = .ok (.if_icmp .lt 5, 3) := by decide +kernel
theorem dX7_signsOf_12 : decode cX7_signsOf 12 = .ok (.iconst 0, 1) := by decide +kernel
theorem dX7_signsOf_13 : decode cX7_signsOf 13 = .ok (.ireturn, 1) := by decide +kernel
theorem dX7_signsOf_14 : decode cX7_signsOf 14 = .ok (.aload_n 0, 1) := by decide +kernel
theorem dX7_signsOf_15 : decode cX7_signsOf 15 = .ok (.iload_n 1, 1) := by decide +kernel
theorem dX7_signsOf_16 : decode cX7_signsOf 16 = .ok (.iconst 2, 1) := by decide +kernel
theorem dX7_signsOf_17 : decode cX7_signsOf 17 = .ok (.imul, 1) := by decide +kernel
theorem dX7_signsOf_18 : decode cX7_signsOf 18 = .ok (.invokevirtual 43, 3) := by decide +kernel
theorem dX7_signsOf_21 : decode cX7_signsOf 21 = .ok (.aload_n 0, 1) := by decide +kernel
theorem dX7_signsOf_22 : decode cX7_signsOf 22 = .ok (.iload_n 1, 1) := by decide +kernel
theorem dX7_signsOf_23 : decode cX7_signsOf 23 = .ok (.iconst 2, 1) := by decide +kernel
theorem dX7_signsOf_24 : decode cX7_signsOf 24 = .ok (.imul, 1) := by decide +kernel
theorem dX7_signsOf_25 : decode cX7_signsOf 25 = .ok (.iconst 1, 1) := by decide +kernel
theorem dX7_signsOf_26 : decode cX7_signsOf 26 = .ok (.iadd, 1) := by decide +kernel
theorem dX7_signsOf_27 : decode cX7_signsOf 27 = .ok (.invokevirtual 43, 3) := by decide +kernel
theorem dX7_signsOf_30 : decode cX7_signsOf 30 = .ok (.iadd, 1) := by decide +kernel
theorem dX7_signsOf_31 : decode cX7_signsOf 31 = .ok (.ireturn, 1) := by decide +kernel
theorem dX7_signAt_0 : decode cX7_signAt 0 = .ok (.iload_n 1, 1) := by decide +kernel
theorem dX7_signAt_1 : decode cX7_signAt 1 = .ok (.ifCond .lt 20, 3) := by decide +kernel
theorem dX7_signAt_4 : decode cX7_signAt 4 = .ok (.iload_n 1, 1) := by decide +kernel
theorem dX7_signAt_5 : decode cX7_signAt 5 = .ok (.aload_n 0, 1) := by decide +kernel
theorem dX7_signAt_6 : decode cX7_signAt 6 = .ok (.getfield 40, 3) := by decide +kernel
theorem dX7_signAt_9 : decode cX7_signAt 9 = .ok (.if_icmp .ge 12, 3) := by decide +kernel
theorem dX7_signAt_12 : decode cX7_signAt 12 = .ok (.iload_n 2, 1) := by decide +kernel
theorem dX7_signAt_13 : decode cX7_signAt 13 = .ok (.ifCond .lt 8, 3) := by decide +kernel
theorem dX7_signAt_16 : decode cX7_signAt 16 = .ok (.iload_n 2, 1) := by decide +kernel
theorem dX7_signAt_17 : decode cX7_signAt 17 = .ok (.iconst 2, 1) := by decide +kernel
theorem dX7_signAt_18 : decode cX7_signAt 18 = .ok (.if_icmp .lt 5, 3) := by decide +kernel
theorem dX7_signAt_21 : decode cX7_signAt 21 = .ok (.iconst (-1), 1) := by decide +kernel
theorem dX7_signAt_22 : decode cX7_signAt 22 = .ok (.ireturn, 1) := by decide +kernel
theorem dX7_signAt_23 : decode cX7_signAt 23 = .ok (.iload_n 1, 1) := by decide +kernel
theorem dX7_signAt_24 : decode cX7_signAt 24 = .ok (.iconst 2, 1) := by decide +kernel
theorem dX7_signAt_25 : decode cX7_signAt 25 = .ok (.imul, 1) := by decide +kernel
theorem dX7_signAt_26 : decode cX7_signAt 26 = .ok (.iload_n 2, 1) := by decide +kernel
theorem dX7_signAt_27 : decode cX7_signAt 27 = .ok (.iadd, 1) := by decide +kernel
theorem dX7_signAt_28 : decode cX7_signAt 28 = .ok (.istore 4, 2) := by decide +kernel
theorem dX7_signAt_30 : decode cX7_signAt 30 = .ok (.iload_n 3, 1) := by decide +kernel
theorem dX7_signAt_31 : decode cX7_signAt 31 = .ok (.ifCond .lt 13, 3) := by decide +kernel
theorem dX7_signAt_34 : decode cX7_signAt 34 = .ok (.iload_n 3, 1) := by decide +kernel
theorem dX7_signAt_35 : decode cX7_signAt 35 = .ok (.aload_n 0, 1) := by decide +kernel
theorem dX7_signAt_36 : decode cX7_signAt 36 = .ok (.iload 4, 2) := by decide +kernel
theorem dX7_signAt_38 : decode cX7_signAt 38 = .ok (.invokevirtual 43, 3) := by decide +kernel
theorem dX7_signAt_41 : decode cX7_signAt 41 = .ok (.if_icmp .lt 5, 3) := by decide +kernel
theorem dX7_signAt_44 : decode cX7_signAt 44 = .ok (.iconst (-1), 1) := by decide +kernel
theorem dX7_signAt_45 : decode cX7_signAt 45 = .ok (.ireturn, 1) := by decide +kernel
theorem dX7_signAt_46 : decode cX7_signAt 46 = .ok (.aload_n 0, 1) := by decide +kernel
theorem dX7_signAt_47 : decode cX7_signAt 47 = .ok (.getfield 19, 3) := by decide +kernel
theorem dX7_signAt_50 : decode cX7_signAt 50 = .ok (.aload_n 0, 1) := by decide +kernel
theorem dX7_signAt_51 : decode cX7_signAt 51 = .ok (.iload 4, 2) := by decide +kernel
theorem dX7_signAt_53 : decode cX7_signAt 53 = .ok (.invokevirtual 30, 3) := by decide +kernel
theorem dX7_signAt_56 : decode cX7_signAt 56 = .ok (.iadd, 1) := by decide +kernel
theorem dX7_signAt_57 : decode cX7_signAt 57 = .ok (.iload_n 3, 1) := by decide +kernel
theorem dX7_signAt_58 : decode cX7_signAt 58 = .ok (.iadd, 1) := by decide +kernel
theorem dX7_signAt_59 : decode cX7_signAt 59 = .ok (.istore 5, 2) := by decide +kernel
theorem dX7_signAt_61 : decode cX7_signAt 61 = .ok (.iload 5, 2) := by decide +kernel
theorem dX7_signAt_63 : decode cX7_signAt 63 = .ok (.ifCond .lt 23, 3) := by decide +kernel
theorem dX7_signAt_66 : decode cX7_signAt 66 = .ok (.iload 5, 2) := by decide +kernel
theorem dX7_signAt_68 : decode cX7_signAt 68 = .ok (.aload_n 0, 1) := by decide +kernel
theorem dX7_signAt_69 : decode cX7_signAt 69 = .ok (.getfield 15, 3) := by decide +kernel
theorem dX7_signAt_72 : decode cX7_signAt 72 = .ok (.arraylength, 1) := by decide +kernel
theorem dX7_signAt_73 : decode cX7_signAt 73 = .ok (.if_icmp .ge 13, 3) := by decide +kernel
theorem dX7_signAt_76 : decode cX7_signAt 76 = .ok (.aload_n 0, 1) := by decide +kernel
theorem dX7_signAt_77 : decode cX7_signAt 77 = .ok (.getfield 15, 3) := by decide +kernel
theorem dX7_signAt_80 : decode cX7_signAt 80 = .ok (.iload 5, 2) := by decide +kernel
theorem dX7_signAt_82 : decode cX7_signAt 82 = .ok (.baload, 1) := by decide +kernel
theorem dX7_signAt_83 : decode cX7_signAt 83 = .ok (.goto 4, 3) := by decide +kernel
theorem dX7_signAt_86 : decode cX7_signAt 86 = .ok (.iconst (-1), 1) := by decide +kernel
theorem dX7_signAt_87 : decode cX7_signAt 87 = .ok (.ireturn, 1) := by decide +kernel
theorem dX8_areWithin_0 : decode cX8_areWithin 0 = .ok (.iload_n 1, 1) := by decide +kernel
theorem dX8_areWithin_1 : decode cX8_areWithin 1 = .ok (.ifCond .lt 25, 3) := by decide +kernel
theorem dX8_areWithin_4 : decode cX8_areWithin 4 = .ok (.iload_n 2, 1) := by decide +kernel
theorem dX8_areWithin_5 : decode cX8_areWithin 5 = .ok (.ifCond .lt 21, 3) := by decide +kernel
theorem dX8_areWithin_8 : decode cX8_areWithin 8 = .ok (.iload_n 2, 1) := by decide +kernel
theorem dX8_areWithin_9 : decode cX8_areWithin 9 = .ok (.aload_n 0, 1) := by decide +kernel
theorem dX8_areWithin_10 : decode cX8_areWithin 10 = .ok (.arraylength, 1) := by decide +kernel
theorem dX8_areWithin_11 : decode cX8_areWithin 11 = .ok (.if_icmp .gt 15, 3) := by decide +kernel
theorem dX8_areWithin_14 : decode cX8_areWithin 14 = .ok (.iload_n 1, 1) := by decide +kernel
theorem dX8_areWithin_15 : decode cX8_areWithin 15 = .ok (.aload_n 0, 1) := by decide +kernel
theorem dX8_areWithin_16 : decode cX8_areWithin 16 = .ok (.arraylength, 1) := by decide +kernel
theorem dX8_areWithin_17 : decode cX8_areWithin 17 = .ok (.iload_n 2, 1) := by decide +kernel
theorem dX8_areWithin_18 : decode cX8_areWithin 18 = .ok (.isub, 1) := by decide +kernel
theorem dX8_areWithin_19 : decode cX8_areWithin 19 = .ok (.if_icmp .gt 7, 3) := by decide +kernel
theorem dX8_areWithin_22 : decode cX8_areWithin 22 = .ok (.iconst 1, 1) := by decide +kernel
theorem dX8_areWithin_23 : decode cX8_areWithin 23 = .ok (.goto 4, 3) := by decide +kernel
theorem dX8_areWithin_26 : decode cX8_areWithin 26 = .ok (.iconst 0, 1) := by decide +kernel
theorem dX8_areWithin_27 : decode cX8_areWithin 27 = .ok (.ireturn, 1) := by decide +kernel
theorem dX8_areProper_0 : decode cX8_areProper 0 = .ok (.aload_n 0, 1) := by decide +kernel
theorem dX8_areProper_1 : decode cX8_areProper 1 = .ok (.iload_n 1, 1) := by decide +kernel
theorem dX8_areProper_2 : decode cX8_areProper 2 = .ok (.iload_n 2, 1) := by decide +kernel
theorem dX8_areProper_3 : decode cX8_areProper 3 = .ok (.invokestatic 9, 3) := by decide +kernel
theorem dX8_areProper_6 : decode cX8_areProper 6 = .ok (.ifCond .ne 5, 3) := by decide +kernel
theorem dX8_areProper_9 : decode cX8_areProper 9 = .ok (.iconst 0, 1) := by decide +kernel
theorem dX8_areProper_10 : decode cX8_areProper 10 = .ok (.ireturn, 1) := by decide +kernel
theorem dX8_areProper_11 : decode cX8_areProper 11 = .ok (.bipush 32, 2) := by decide +kernel
theorem dX8_areProper_13 : decode cX8_areProper 13 = .ok (.istore_n 3, 1) := by decide +kernel
theorem dX8_areProper_14 : decode cX8_areProper 14 = .ok (.iload_n 1, 1) := by decide +kernel
theorem dX8_areProper_15 : decode cX8_areProper 15 = .ok (.istore 4, 2) := by decide +kernel
theorem dX8_areProper_17 : decode cX8_areProper 17 = .ok (.iload 4, 2) := by decide +kernel
theorem dX8_areProper_19 : decode cX8_areProper 19 = .ok (.iload_n 1, 1) := by decide +kernel
theorem dX8_areProper_20 : decode cX8_areProper 20 = .ok (.iload_n 2, 1) := by decide +kernel
theorem dX8_areProper_21 : decode cX8_areProper 21 = .ok (.iadd, 1) := by decide +kernel
theorem dX8_areProper_22 : decode cX8_areProper 22 = .ok (.if_icmp .ge 54, 3) := by decide +kernel
theorem dX8_areProper_25 : decode cX8_areProper 25 = .ok (.aload_n 0, 1) := by decide +kernel
theorem dX8_areProper_26 : decode cX8_areProper 26 = .ok (.iload 4, 2) := by decide +kernel
theorem dX8_areProper_28 : decode cX8_areProper 28 = .ok (.baload, 1) := by decide +kernel
theorem dX8_areProper_29 : decode cX8_areProper 29 = .ok (.istore 5, 2) := by decide +kernel
theorem dX8_areProper_31 : decode cX8_areProper 31 = .ok (.iload 5, 2) := by decide +kernel
theorem dX8_areProper_33 : decode cX8_areProper 33 = .ok (.bipush 32, 2) := by decide +kernel
theorem dX8_areProper_35 : decode cX8_areProper 35 = .ok (.if_icmp .lt 30, 3) := by decide +kernel
theorem dX8_areProper_38 : decode cX8_areProper 38 = .ok (.iload 5, 2) := by decide +kernel
theorem dX8_areProper_40 : decode cX8_areProper 40 = .ok (.bipush 126, 2) := by decide +kernel
theorem dX8_areProper_42 : decode cX8_areProper 42 = .ok (.if_icmp .gt 23, 3) := by decide +kernel
theorem dX8_areProper_45 : decode cX8_areProper 45 = .ok (.iload 5, 2) := by decide +kernel
theorem dX8_areProper_47 : decode cX8_areProper 47 = .ok (.bipush 34, 2) := by decide +kernel
theorem dX8_areProper_49 : decode cX8_areProper 49 = .ok (.if_icmp .eq 16, 3) := by decide +kernel
theorem dX8_areProper_52 : decode cX8_areProper 52 = .ok (.iload 5, 2) := by decide +kernel
theorem dX8_areProper_54 : decode cX8_areProper 54 = .ok (.bipush 32, 2) := by decide +kernel
theorem dX8_areProper_56 : decode cX8_areProper 56 = .ok (.if_icmp .ne 11, 3) := by decide +kernel
theorem dX8_areProper_59 : decode cX8_areProper 59 = .ok (.iload_n 3, 1) := by decide +kernel
theorem dX8_areProper_60 : decode cX8_areProper 60 = .ok (.bipush 32, 2) := by decide +kernel
theorem dX8_areProper_62 : decode cX8_areProper 62 = .ok (.if_icmp .ne 5, 3) := by decide +kernel
theorem dX8_areProper_65 : decode cX8_areProper 65 = .ok (.iconst 0, 1) := by decide +kernel
theorem dX8_areProper_66 : decode cX8_areProper 66 = .ok (.ireturn, 1) := by decide +kernel
theorem dX8_areProper_67 : decode cX8_areProper 67 = .ok (.iload 5, 2) := by decide +kernel
theorem dX8_areProper_69 : decode cX8_areProper 69 = .ok (.istore_n 3, 1) := by decide +kernel
theorem dX8_areProper_70 : decode cX8_areProper 70 = .ok (.iinc 4 1, 3) := by decide +kernel
theorem dX8_areProper_73 : decode cX8_areProper 73 = .ok (.goto (-56), 3) := by decide +kernel
theorem dX8_areProper_76 : decode cX8_areProper 76 = .ok (.iload_n 3, 1) := by decide +kernel
theorem dX8_areProper_77 : decode cX8_areProper 77 = .ok (.bipush 32, 2) := by decide +kernel
theorem dX8_areProper_79 : decode cX8_areProper 79 = .ok (.if_icmp .eq 7, 3) := by decide +kernel
theorem dX8_areProper_82 : decode cX8_areProper 82 = .ok (.iconst 1, 1) := by decide +kernel
theorem dX8_areProper_83 : decode cX8_areProper 83 = .ok (.goto 4, 3) := by decide +kernel
theorem dX8_areProper_86 : decode cX8_areProper 86 = .ok (.iconst 0, 1) := by decide +kernel
theorem dX8_areProper_87 : decode cX8_areProper 87 = .ok (.ireturn, 1) := by decide +kernel
theorem dX8_fit_0 : decode cX8_fit 0 = .ok (.aload_n 0, 1) := by decide +kernel
theorem dX8_fit_1 : decode cX8_fit 1 = .ok (.iload_n 1, 1) := by decide +kernel
theorem dX8_fit_2 : decode cX8_fit 2 = .ok (.iload_n 2, 1) := by decide +kernel
theorem dX8_fit_3 : decode cX8_fit 3 = .ok (.iload_n 3, 1) := by decide +kernel
theorem dX8_fit_4 : decode cX8_fit 4 = .ok (.invokestatic 15, 3) := by decide +kernel
theorem dX8_fit_7 : decode cX8_fit 7 = .ok (.istore 4, 2) := by decide +kernel
theorem dX8_fit_9 : decode cX8_fit 9 = .ok (.iload 4, 2) := by decide +kernel
theorem dX8_fit_11 : decode cX8_fit 11 = .ok (.iconst (-1), 1) := by decide +kernel
theorem dX8_fit_12 : decode cX8_fit 12 = .ok (.if_icmp .eq 14, 3) := by decide +kernel
theorem dX8_fit_15 : decode cX8_fit 15 = .ok (.iload 4, 2) := by decide +kernel
theorem dX8_fit_17 : decode cX8_fit 17 = .ok (.bipush 12, 2) := by decide +kernel
theorem dX8_fit_19 : decode cX8_fit 19 = .ok (.if_icmp .gt 7, 3) := by decide +kernel
theorem dX8_fit_22 : decode cX8_fit 22 = .ok (.iconst 1, 1) := by decide +kernel
theorem dX8_fit_23 : decode cX8_fit 23 = .ok (.goto 4, 3) := by decide +kernel
theorem dX8_fit_26 : decode cX8_fit 26 = .ok (.iconst 0, 1) := by decide +kernel
theorem dX8_fit_27 : decode cX8_fit 27 = .ok (.ireturn, 1) := by decide +kernel
theorem dX8_leastRows_0 : decode cX8_leastRows 0 = .ok (.aload_n 0, 1) := by decide +kernel
theorem dX8_leastRows_1 : decode cX8_leastRows 1 = .ok (.iload_n 1, 1) := by decide +kernel
theorem dX8_leastRows_2 : decode cX8_leastRows 2 = .ok (.iload_n 2, 1) := by decide +kernel
theorem dX8_leastRows_3 : decode cX8_leastRows 3 = .ok (.invokestatic 9, 3) := by decide +kernel
theorem dX8_leastRows_6 : decode cX8_leastRows 6 = .ok (.ifCond .ne 5, 3) := by decide +kernel
theorem dX8_leastRows_9 : decode cX8_leastRows 9 = .ok (.iconst (-1), 1) := by decide +kernel
theorem dX8_leastRows_10 : decode cX8_leastRows 10 = .ok (.ireturn, 1) := by decide +kernel
theorem dX8_leastRows_11 : decode cX8_leastRows 11 = .ok (.iconst 0, 1) := by decide +kernel
theorem dX8_leastRows_12 : decode cX8_leastRows 12 = .ok (.istore 4, 2) := by decide +kernel
theorem dX8_leastRows_14 : decode cX8_leastRows 14 = .ok (.iload_n 3, 1) := by decide +kernel
theorem dX8_leastRows_15 : decode cX8_leastRows 15 = .ok (.istore 5, 2) := by decide +kernel
theorem dX8_leastRows_17 : decode cX8_leastRows 17 = .ok (.iconst 0, 1) := by decide +kernel
theorem dX8_leastRows_18 : decode cX8_leastRows 18 = .ok (.istore 6, 2) := by decide +kernel
theorem dX8_leastRows_20 : decode cX8_leastRows 20 = .ok (.iload_n 1, 1) := by decide +kernel
theorem dX8_leastRows_21 : decode cX8_leastRows 21 = .ok (.istore 7, 2) := by decide +kernel
theorem dX8_leastRows_23 : decode cX8_leastRows 23 = .ok (.iload 7, 2) := by decide +kernel
theorem dX8_leastRows_25 : decode cX8_leastRows 25 = .ok (.iload_n 1, 1) := by decide +kernel
theorem dX8_leastRows_26 : decode cX8_leastRows 26 = .ok (.iload_n 2, 1) := by decide +kernel
theorem dX8_leastRows_27 : decode cX8_leastRows 27 = .ok (.iadd, 1) := by decide +kernel
theorem dX8_leastRows_28 : decode cX8_leastRows 28 = .ok (.if_icmp .gt 65, 3) := by decide +kernel
theorem dX8_leastRows_31 : decode cX8_leastRows 31 = .ok (.iload 7, 2) := by decide +kernel
theorem dX8_leastRows_33 : decode cX8_leastRows 33 = .ok (.iload_n 1, 1) := by decide +kernel
theorem dX8_leastRows_34 : decode cX8_leastRows 34 = .ok (.iload_n 2, 1) := by decide +kernel
theorem dX8_leastRows_35 : decode cX8_leastRows 35 = .ok (.iadd, 1) := by decide +kernel
theorem dX8_leastRows_36 : decode cX8_leastRows 36 = .ok (.if_icmp .ge 18, 3) := by decide +kernel
theorem dX8_leastRows_39 : decode cX8_leastRows 39 = .ok (.aload_n 0, 1) := by decide +kernel
theorem dX8_leastRows_40 : decode cX8_leastRows 40 = .ok (.iload 7, 2) := by decide +kernel
theorem dX8_leastRows_42 : decode cX8_leastRows 42 = .ok (.baload, 1) := by decide +kernel
theorem dX8_leastRows_43 : decode cX8_leastRows 43 = .ok (.bipush 32, 2) := by decide +kernel
theorem dX8_leastRows_45 : decode cX8_leastRows 45 = .ok (.if_icmp .eq 9, 3) := by decide +kernel
theorem dX8_leastRows_48 : decode cX8_leastRows 48 = .ok (.iinc 6 1, 3) := by decide +kernel
theorem dX8_leastRows_51 : decode cX8_leastRows 51 = .ok (.goto 36, 3) := by decide +kernel
theorem dX8_leastRows_54 : decode cX8_leastRows 54 = .ok (.iload 6, 2) := by decide +kernel
theorem dX8_leastRows_56 : decode cX8_leastRows 56 = .ok (.iload_n 3, 1) := by decide +kernel
theorem dX8_leastRows_57 : decode cX8_leastRows 57 = .ok (.if_icmp .le 5, 3) := by decide +kernel
theorem dX8_leastRows_60 : decode cX8_leastRows 60 = .ok (.iconst (-1), 1) := by decide +kernel
theorem dX8_leastRows_61 : decode cX8_leastRows 61 = .ok (.ireturn, 1) := by decide +kernel
theorem dX8_leastRows_62 : decode cX8_leastRows 62 = .ok (.iload 5, 2) := by decide +kernel
theorem dX8_leastRows_64 : decode cX8_leastRows 64 = .ok (.iconst 1, 1) := by decide +kernel
theorem dX8_leastRows_65 : decode cX8_leastRows 65 = .ok (.iload 6, 2) := by decide +kernel
theorem dX8_leastRows_67 : decode cX8_leastRows 67 = .ok (.iadd, 1) := by decide +kernel
theorem dX8_leastRows_68 : decode cX8_leastRows 68 = .ok (.iadd, 1) := by decide +kernel
theorem dX8_leastRows_69 : decode cX8_leastRows 69 = .ok (.istore 5, 2) := by decide +kernel
theorem dX8_leastRows_71 : decode cX8_leastRows 71 = .ok (.iload 5, 2) := by decide +kernel
theorem dX8_leastRows_73 : decode cX8_leastRows 73 = .ok (.iload_n 3, 1) := by decide +kernel
theorem dX8_leastRows_74 : decode cX8_leastRows 74 = .ok (.if_icmp .le 10, 3) := by decide +kernel
theorem dX8_leastRows_77 : decode cX8_leastRows 77 = .ok (.iinc 4 1, 3) := by decide +kernel
theorem dX8_leastRows_80 : decode cX8_leastRows 80 = .ok (.iload 6, 2) := by decide +kernel
theorem dX8_leastRows_82 : decode cX8_leastRows 82 = .ok (.istore 5, 2) := by decide +kernel
theorem dX8_leastRows_84 : decode cX8_leastRows 84 = .ok (.iconst 0, 1) := by decide +kernel
theorem dX8_leastRows_85 : decode cX8_leastRows 85 = .ok (.istore 6, 2) := by decide +kernel
theorem dX8_leastRows_87 : decode cX8_leastRows 87 = .ok (.iinc 7 1, 3) := by decide +kernel
theorem dX8_leastRows_90 : decode cX8_leastRows 90 = .ok (.goto (-67), 3) := by decide +kernel
theorem dX8_leastRows_93 : decode cX8_leastRows 93 = .ok (.iload 4, 2) := by decide +kernel
theorem dX8_leastRows_95 : decode cX8_leastRows 95 = .ok (.ireturn, 1) := by decide +kernel
theorem dX9_init_0 : decode cX9_init 0 = .ok (.aload_n 0, 1) := by decide +kernel
theorem dX9_init_1 : decode cX9_init 1 = .ok (.invokespecial 3, 3) := by decide +kernel
theorem dX9_init_4 : decode cX9_init 4 = .ok (.aload_n 0, 1) := by decide +kernel
theorem dX9_init_5 : decode cX9_init 5 = .ok (.new 9, 3) := by decide +kernel
theorem dX9_init_8 : decode cX9_init 8 = .ok (.dup, 1) := by decide +kernel
theorem dX9_init_9 : decode cX9_init 9 = .ok (.invokespecial 11, 3) := by decide +kernel
theorem dX9_init_12 : decode cX9_init 12 = .ok (.putfield 12, 3) := by decide +kernel
theorem dX9_init_15 : decode cX9_init 15 = .ok (.aload_n 0, 1) := by decide +kernel
theorem dX9_init_16 : decode cX9_init 16 = .ok (.new 9, 3) := by decide +kernel
theorem dX9_init_19 : decode cX9_init 19 = .ok (.dup, 1) := by decide +kernel
theorem dX9_init_20 : decode cX9_init 20 = .ok (.invokespecial 11, 3) := by decide +kernel
theorem dX9_init_23 : decode cX9_init 23 = .ok (.putfield 16, 3) := by decide +kernel
theorem dX9_init_26 : decode cX9_init 26 = .ok (.aload_n 0, 1) := by decide +kernel
theorem dX9_init_27 : decode cX9_init 27 = .ok (.new 19, 3) := by decide +kernel
theorem dX9_init_30 : decode cX9_init 30 = .ok (.dup, 1) := by decide +kernel
theorem dX9_init_31 : decode cX9_init 31 = .ok (.invokespecial 21, 3) := by decide +kernel
theorem dX9_init_34 : decode cX9_init 34 = .ok (.putfield 22, 3) := by decide +kernel
theorem dX9_init_37 : decode cX9_init 37 = .ok (.aload_n 0, 1) := by decide +kernel
theorem dX9_init_38 : decode cX9_init 38 = .ok (.new 19, 3) := by decide +kernel
theorem dX9_init_41 : decode cX9_init 41 = .ok (.dup, 1) := by decide +kernel
theorem dX9_init_42 : decode cX9_init 42 = .ok (.invokespecial 21, 3) := by decide +kernel
theorem dX9_init_45 : decode cX9_init 45 = .ok (.putfield 26, 3) := by decide +kernel
theorem dX9_init_48 : decode cX9_init 48 = .ok (.aload_n 0, 1) := by decide +kernel
theorem dX9_init_49 : decode cX9_init 49 = .ok (.new 29, 3) := by decide +kernel
theorem dX9_init_52 : decode cX9_init 52 = .ok (.dup, 1) := by decide +kernel
theorem dX9_init_53 : decode cX9_init 53 = .ok (.aload_n 0, 1) := by decide +kernel
theorem dX9_init_54 : decode cX9_init 54 = .ok (.getfield 26, 3) := by decide +kernel
theorem dX9_init_57 : decode cX9_init 57 = .ok (.aload_n 0, 1) := by decide +kernel
theorem dX9_init_58 : decode cX9_init 58 = .ok (.getfield 12, 3) := by decide +kernel
theorem dX9_init_61 : decode cX9_init 61 = .ok (.getfield 31, 3) := by decide +kernel
theorem dX9_init_64 : decode cX9_init 64 = .ok (.invokespecial 35, 3) := by decide +kernel
theorem dX9_init_67 : decode cX9_init 67 = .ok (.putfield 38, 3) := by decide +kernel
theorem dX9_init_70 : decode cX9_init 70 = .ok (.aload_n 0, 1) := by decide +kernel
theorem dX9_init_71 : decode cX9_init 71 = .ok (.new 42, 3) := by decide +kernel
theorem dX9_init_74 : decode cX9_init 74 = .ok (.dup, 1) := by decide +kernel
theorem dX9_init_75 : decode cX9_init 75 = .ok (.aload_n 0, 1) := by decide +kernel
theorem dX9_init_76 : decode cX9_init 76 = .ok (.getfield 22, 3) := by decide +kernel
theorem dX9_init_79 : decode cX9_init 79 = .ok (.aload_n 0, 1) := by decide +kernel
theorem dX9_init_80 : decode cX9_init 80 = .ok (.getfield 16, 3) := by decide +kernel
theorem dX9_init_83 : decode cX9_init 83 = .ok (.getfield 31, 3) := by decide +kernel
theorem dX9_init_86 : decode cX9_init 86 = .ok (.invokespecial 44, 3) := by decide +kernel
theorem dX9_init_89 : decode cX9_init 89 = .ok (.putfield 45, 3) := by decide +kernel
theorem dX9_init_92 : decode cX9_init 92 = .ok (.aload_n 0, 1) := by decide +kernel
theorem dX9_init_93 : decode cX9_init 93 = .ok (.new 49, 3) := by decide +kernel
theorem dX9_init_96 : decode cX9_init 96 = .ok (.dup, 1) := by decide +kernel
theorem dX9_init_97 : decode cX9_init 97 = .ok (.aload_n 0, 1) := by decide +kernel
theorem dX9_init_98 : decode cX9_init 98 = .ok (.getfield 22, 3) := by decide +kernel
theorem dX9_init_101 : decode cX9_init 101 = .ok (.invokespecial 51, 3) := by decide +kernel
theorem dX9_init_104 : decode cX9_init 104 = .ok (.putfield 54, 3) := by decide +kernel
theorem dX9_init_107 : decode cX9_init 107 = .ok (.return_, 1) := by decide +kernel
theorem dX9_feed_0 : decode cX9_feed 0 = .ok (.aload_n 0, 1) := by decide +kernel
theorem dX9_feed_1 : decode cX9_feed 1 = .ok (.getfield 12, 3) := by decide +kernel
theorem dX9_feed_4 : decode cX9_feed 4 = .ok (.invokevirtual 58, 3) := by decide +kernel
theorem dX9_feed_7 : decode cX9_feed 7 = .ok (.ifCond .ne 5, 3) := by decide +kernel
theorem dX9_feed_10 : decode cX9_feed 10 = .ok (.iconst (-1), 1) := by decide +kernel
theorem dX9_feed_11 : decode cX9_feed 11 = .ok (.ireturn, 1) := by decide +kernel
theorem dX9_feed_12 : decode cX9_feed 12 = .ok (.aload_n 0, 1) := by decide +kernel
theorem dX9_feed_13 : decode cX9_feed 13 = .ok (.getfield 12, 3) := by decide +kernel
theorem dX9_feed_16 : decode cX9_feed 16 = .ok (.iload_n 1, 1) := by decide +kernel
theorem dX9_feed_17 : decode cX9_feed 17 = .ok (.invokevirtual 62, 3) := by decide +kernel
theorem dX9_feed_20 : decode cX9_feed 20 = .ok (.aload_n 0, 1) := by decide +kernel
theorem dX9_feed_21 : decode cX9_feed 21 = .ok (.getfield 12, 3) := by decide +kernel
theorem dX9_feed_24 : decode cX9_feed 24 = .ok (.iload_n 2, 1) := by decide +kernel
theorem dX9_feed_25 : decode cX9_feed 25 = .ok (.invokevirtual 62, 3) := by decide +kernel
theorem dX9_feed_28 : decode cX9_feed 28 = .ok (.aload_n 0, 1) := by decide +kernel
theorem dX9_feed_29 : decode cX9_feed 29 = .ok (.getfield 12, 3) := by decide +kernel
theorem dX9_feed_32 : decode cX9_feed 32 = .ok (.iload_n 3, 1) := by decide +kernel
theorem dX9_feed_33 : decode cX9_feed 33 = .ok (.invokevirtual 62, 3) := by decide +kernel
theorem dX9_feed_36 : decode cX9_feed 36 = .ok (.aload_n 0, 1) := by decide +kernel
theorem dX9_feed_37 : decode cX9_feed 37 = .ok (.getfield 12, 3) := by decide +kernel
theorem dX9_feed_40 : decode cX9_feed 40 = .ok (.iload 4, 2) := by decide +kernel
theorem dX9_feed_42 : decode cX9_feed 42 = .ok (.invokevirtual 62, 3) := by decide +kernel
theorem dX9_feed_45 : decode cX9_feed 45 = .ok (.aload_n 0, 1) := by decide +kernel
theorem dX9_feed_46 : decode cX9_feed 46 = .ok (.getfield 12, 3) := by decide +kernel
theorem dX9_feed_49 : decode cX9_feed 49 = .ok (.iload 5, 2) := by decide +kernel
theorem dX9_feed_51 : decode cX9_feed 51 = .ok (.invokevirtual 62, 3) := by decide +kernel
theorem dX9_feed_54 : decode cX9_feed 54 = .ok (.aload_n 0, 1) := by decide +kernel
theorem dX9_feed_55 : decode cX9_feed 55 = .ok (.getfield 12, 3) := by decide +kernel
theorem dX9_feed_58 : decode cX9_feed 58 = .ok (.getfield 66, 3) := by decide +kernel
theorem dX9_feed_61 : decode cX9_feed 61 = .ok (.ireturn, 1) := by decide +kernel
theorem dX9_text_0 : decode cX9_text 0 = .ok (.aload_n 0, 1) := by decide +kernel
theorem dX9_text_1 : decode cX9_text 1 = .ok (.getfield 12, 3) := by decide +kernel
theorem dX9_text_4 : decode cX9_text 4 = .ok (.iload_n 1, 1) := by decide +kernel
theorem dX9_text_5 : decode cX9_text 5 = .ok (.invokevirtual 70, 3) := by decide +kernel
theorem dX9_text_8 : decode cX9_text 8 = .ok (.ifCond .ne 6, 3) := by decide +kernel
theorem dX9_text_11 : decode cX9_text 11 = .ok (.bipush (-2), 2) := by decide +kernel
theorem dX9_text_13 : decode cX9_text 13 = .ok (.ireturn, 1) := by decide +kernel
theorem dX9_text_14 : decode cX9_text 14 = .ok (.aload_n 0, 1) := by decide +kernel
theorem dX9_text_15 : decode cX9_text 15 = .ok (.getfield 38, 3) := by decide +kernel
theorem dX9_text_18 : decode cX9_text 18 = .ok (.aload_n 0, 1) := by decide +kernel
theorem dX9_text_19 : decode cX9_text 19 = .ok (.getfield 12, 3) := by decide +kernel
theorem dX9_text_22 : decode cX9_text 22 = .ok (.getfield 31, 3) := by decide +kernel
theorem dX9_text_25 : decode cX9_text 25 = .ok (.iload_n 1, 1) := by decide +kernel
theorem dX9_text_26 : decode cX9_text 26 = .ok (.aload_n 0, 1) := by decide +kernel
theorem dX9_text_27 : decode cX9_text 27 = .ok (.getfield 26, 3) := by decide +kernel
theorem dX9_text_30 : decode cX9_text 30 = .ok (.invokevirtual 74, 3) := by decide +kernel
theorem dX9_text_33 : decode cX9_text 33 = .ok (.istore_n 2, 1) := by decide +kernel
theorem dX9_text_34 : decode cX9_text 34 = .ok (.iload_n 2, 1) := by decide +kernel
theorem dX9_text_35 : decode cX9_text 35 = .ok (.ifCond .eq 36, 3) := by decide +kernel
theorem dX9_text_38 : decode cX9_text 38 = .ok (.aload_n 0, 1) := by decide +kernel
theorem dX9_text_39 : decode cX9_text 39 = .ok (.invokevirtual 78, 3) := by decide +kernel
theorem dX9_text_42 : decode cX9_text 42 = .ok (.aload_n 0, 1) := by decide +kernel
theorem dX9_text_43 : decode cX9_text 43 = .ok (.getfield 45, 3) := by decide +kernel
theorem dX9_text_46 : decode cX9_text 46 = .ok (.aload_n 0, 1) := by decide +kernel
theorem dX9_text_47 : decode cX9_text 47 = .ok (.getfield 22, 3) := by decide +kernel
theorem dX9_text_50 : decode cX9_text 50 = .ok (.aload_n 0, 1) := by decide +kernel
theorem dX9_text_51 : decode cX9_text 51 = .ok (.getfield 16, 3) := by decide +kernel
theorem dX9_text_54 : decode cX9_text 54 = .ok (.getfield 31, 3) := by decide +kernel
theorem dX9_text_57 : decode cX9_text 57 = .ok (.invokevirtual 81, 3) := by decide +kernel
theorem dX9_text_60 : decode cX9_text 60 = .ok (.aload_n 0, 1) := by decide +kernel
theorem dX9_text_61 : decode cX9_text 61 = .ok (.getfield 54, 3) := by decide +kernel
theorem dX9_text_64 : decode cX9_text 64 = .ok (.aload_n 0, 1) := by decide +kernel
theorem dX9_text_65 : decode cX9_text 65 = .ok (.getfield 22, 3) := by decide +kernel
theorem dX9_text_68 : decode cX9_text 68 = .ok (.invokevirtual 84, 3) := by decide +kernel
theorem dX9_text_71 : decode cX9_text 71 = .ok (.aload_n 0, 1) := by decide +kernel
theorem dX9_text_72 : decode cX9_text 72 = .ok (.getfield 12, 3) := by decide +kernel
theorem dX9_text_75 : decode cX9_text 75 = .ok (.invokevirtual 87, 3) := by decide +kernel
theorem dX9_text_78 : decode cX9_text 78 = .ok (.iload_n 2, 1) := by decide +kernel
theorem dX9_text_79 : decode cX9_text 79 = .ok (.ifCond .eq 13, 3) := by decide +kernel
theorem dX9_text_82 : decode cX9_text 82 = .ok (.aload_n 0, 1) := by decide +kernel
theorem dX9_text_83 : decode cX9_text 83 = .ok (.getfield 22, 3) := by decide +kernel
theorem dX9_text_86 : decode cX9_text 86 = .ok (.getfield 90, 3) := by decide +kernel
theorem dX9_text_89 : decode cX9_text 89 = .ok (.goto 4, 3) := by decide +kernel
theorem dX9_text_92 : decode cX9_text 92 = .ok (.iconst (-1), 1) := by decide +kernel
theorem dX9_text_93 : decode cX9_text 93 = .ok (.ireturn, 1) := by decide +kernel
theorem dX9_takeDraft_0 : decode cX9_takeDraft 0 = .ok (.aload_n 0, 1) := by decide +kernel
theorem dX9_takeDraft_1 : decode cX9_takeDraft 1 = .ok (.getfield 12, 3) := by decide +kernel
theorem dX9_takeDraft_4 : decode cX9_takeDraft 4 = .ok (.astore_n 1, 1) := by decide +kernel
theorem dX9_takeDraft_5 : decode cX9_takeDraft 5 = .ok (.aload_n 0, 1) := by decide +kernel
theorem dX9_takeDraft_6 : decode cX9_takeDraft 6 = .ok (.aload_n 0, 1) := by decide +kernel
theorem dX9_takeDraft_7 : decode cX9_takeDraft 7 = .ok (.getfield 16, 3) := by decide +kernel
theorem dX9_takeDraft_10 : decode cX9_takeDraft 10 = .ok (.putfield 12, 3) := by decide +kernel
theorem dX9_takeDraft_13 : decode cX9_takeDraft 13 = .ok (.aload_n 0, 1) := by decide +kernel
theorem dX9_takeDraft_14 : decode cX9_takeDraft 14 = .ok (.aload_n 1, 1) := by decide +kernel
theorem dX9_takeDraft_15 : decode cX9_takeDraft 15 = .ok (.putfield 16, 3) := by decide +kernel
theorem dX9_takeDraft_18 : decode cX9_takeDraft 18 = .ok (.aload_n 0, 1) := by decide +kernel
theorem dX9_takeDraft_19 : decode cX9_takeDraft 19 = .ok (.getfield 26, 3) := by decide +kernel
theorem dX9_takeDraft_22 : decode cX9_takeDraft 22 = .ok (.astore_n 2, 1) := by decide +kernel
theorem dX9_takeDraft_23 : decode cX9_takeDraft 23 = .ok (.aload_n 0, 1) := by decide +kernel
theorem dX9_takeDraft_24 : decode cX9_takeDraft 24 = .ok (.aload_n 0, 1) := by decide +kernel
theorem dX9_takeDraft_25 : decode cX9_takeDraft 25 = .ok (.getfield 22, 3) := by decide +kernel
theorem dX9_takeDraft_28 : decode cX9_takeDraft 28 = .ok (.putfield 26, 3) := by decide +kernel
theorem dX9_takeDraft_31 : decode cX9_takeDraft 31 = .ok (.aload_n 0, 1) := by decide +kernel
theorem dX9_takeDraft_32 : decode cX9_takeDraft 32 = .ok (.aload_n 2, 1) := by decide +kernel
theorem dX9_takeDraft_33 : decode cX9_takeDraft 33 = .ok (.putfield 22, 3) := by decide +kernel
theorem dX9_takeDraft_36 : decode cX9_takeDraft 36 = .ok (.return_, 1) := by decide +kernel
theorem dX9_fault_0 : decode cX9_fault 0 = .ok (.iload_n 1, 1) := by decide +kernel
theorem dX9_fault_1 : decode cX9_fault 1 = .ok (.lookupswitch 43 #[(0, 27), (1, 35)], 27) := by decide +kernel
theorem dX9_fault_28 : decode cX9_fault 28 = .ok (.aload_n 0, 1) := by decide +kernel
theorem dX9_fault_29 : decode cX9_fault 29 = .ok (.getfield 38, 3) := by decide +kernel
theorem dX9_fault_32 : decode cX9_fault 32 = .ok (.getfield 93, 3) := by decide +kernel
theorem dX9_fault_35 : decode cX9_fault 35 = .ok (.ireturn, 1) := by decide +kernel
theorem dX9_fault_36 : decode cX9_fault 36 = .ok (.aload_n 0, 1) := by decide +kernel
theorem dX9_fault_37 : decode cX9_fault 37 = .ok (.getfield 38, 3) := by decide +kernel
theorem dX9_fault_40 : decode cX9_fault 40 = .ok (.getfield 96, 3) := by decide +kernel
theorem dX9_fault_43 : decode cX9_fault 43 = .ok (.ireturn, 1) := by decide +kernel
theorem dX9_fault_44 : decode cX9_fault 44 = .ok (.iconst (-1), 1) := by decide +kernel
theorem dX9_fault_45 : decode cX9_fault 45 = .ok (.ireturn, 1) := by decide +kernel
theorem dX9_begin_0 : decode cX9_begin 0 = .ok (.aload_n 0, 1) := by decide +kernel
theorem dX9_begin_1 : decode cX9_begin 1 = .ok (.getfield 45, 3) := by decide +kernel
theorem dX9_begin_4 : decode cX9_begin 4 = .ok (.invokevirtual 99, 3) := by decide +kernel
theorem dX9_begin_7 : decode cX9_begin 7 = .ok (.aload_n 0, 1) := by decide +kernel
theorem dX9_begin_8 : decode cX9_begin 8 = .ok (.getfield 54, 3) := by decide +kernel
theorem dX9_begin_11 : decode cX9_begin 11 = .ok (.aload_n 0, 1) := by decide +kernel
theorem dX9_begin_12 : decode cX9_begin 12 = .ok (.getfield 22, 3) := by decide +kernel
theorem dX9_begin_15 : decode cX9_begin 15 = .ok (.invokevirtual 84, 3) := by decide +kernel
theorem dX9_begin_18 : decode cX9_begin 18 = .ok (.return_, 1) := by decide +kernel
theorem dX9_cut_0 : decode cX9_cut 0 = .ok (.aload_n 0, 1) := by decide +kernel
theorem dX9_cut_1 : decode cX9_cut 1 = .ok (.getfield 22, 3) := by decide +kernel
theorem dX9_cut_4 : decode cX9_cut 4 = .ok (.iload_n 1, 1) := by decide +kernel
theorem dX9_cut_5 : decode cX9_cut 5 = .ok (.invokevirtual 102, 3) := by decide +kernel
theorem dX9_cut_8 : decode cX9_cut 8 = .ok (.ifCond .ne 5, 3) := by decide +kernel
theorem dX9_cut_11 : decode cX9_cut 11 = .ok (.iconst 0, 1) := by decide +kernel
theorem dX9_cut_12 : decode cX9_cut 12 = .ok (.ireturn, 1) := by decide +kernel
theorem dX9_cut_13 : decode cX9_cut 13 = .ok (.aload_n 0, 1) := by decide +kernel
theorem dX9_cut_14 : decode cX9_cut 14 = .ok (.getfield 54, 3) := by decide +kernel
theorem dX9_cut_17 : decode cX9_cut 17 = .ok (.iload_n 1, 1) := by decide +kernel
theorem dX9_cut_18 : decode cX9_cut 18 = .ok (.iload_n 2, 1) := by decide +kernel
theorem dX9_cut_19 : decode cX9_cut 19 = .ok (.invokevirtual 105, 3) := by decide +kernel
theorem dX9_cut_22 : decode cX9_cut 22 = .ok (.iconst 1, 1) := by decide +kernel
theorem dX9_cut_23 : decode cX9_cut 23 = .ok (.ireturn, 1) := by decide +kernel
theorem dX9_change_0 : decode cX9_change 0 = .ok (.aload_n 0, 1) := by decide +kernel
theorem dX9_change_1 : decode cX9_change 1 = .ok (.getfield 22, 3) := by decide +kernel
theorem dX9_change_4 : decode cX9_change 4 = .ok (.iload_n 1, 1) := by decide +kernel
theorem dX9_change_5 : decode cX9_change 5 = .ok (.invokevirtual 109, 3) := by decide +kernel
theorem dX9_change_8 : decode cX9_change 8 = .ok (.ifCond .eq 25, 3) := by decide +kernel
theorem dX9_change_11 : decode cX9_change 11 = .ok (.aload_n 0, 1) := by decide +kernel
theorem dX9_change_12 : decode cX9_change 12 = .ok (.getfield 22, 3) := by decide +kernel
theorem dX9_change_15 : decode cX9_change 15 = .ok (.iload_n 2, 1) := by decide +kernel
theorem dX9_change_16 : decode cX9_change 16 = .ok (.invokevirtual 112, 3) := by decide +kernel
theorem dX9_change_19 : decode cX9_change 19 = .ok (.ifCond .eq 14, 3) := by decide +kernel
theorem dX9_change_22 : decode cX9_change 22 = .ok (.aload_n 0, 1) := by decide +kernel
theorem dX9_change_23 : decode cX9_change 23 = .ok (.getfield 12, 3) := by decide +kernel
theorem dX9_change_26 : decode cX9_change 26 = .ok (.iload_n 3, 1) := by decide +kernel
theorem dX9_change_27 : decode cX9_change 27 = .ok (.invokevirtual 70, 3) := by decide +kernel
theorem dX9_change_30 : decode cX9_change 30 = .ok (.ifCond .ne 5, 3) := by decide +kernel
theorem dX9_change_33 : decode cX9_change 33 = .ok (.iconst 0, 1) := by decide +kernel
theorem dX9_change_34 : decode cX9_change 34 = .ok (.ireturn, 1) := by decide +kernel
theorem dX9_change_35 : decode cX9_change 35 = .ok (.iload_n 3, 1) := by decide +kernel
theorem dX9_change_36 : decode cX9_change 36 = .ok (.ifCond .ne 15, 3) := by decide +kernel
theorem dX9_change_39 : decode cX9_change 39 = .ok (.aload_n 0, 1) := by decide +kernel
theorem dX9_change_40 : decode cX9_change 40 = .ok (.getfield 45, 3) := by decide +kernel
theorem dX9_change_43 : decode cX9_change 43 = .ok (.iload_n 1, 1) := by decide +kernel
theorem dX9_change_44 : decode cX9_change 44 = .ok (.iload_n 2, 1) := by decide +kernel
theorem dX9_change_45 : decode cX9_change 45 = .ok (.invokevirtual 115, 3) := by decide +kernel
theorem dX9_change_48 : decode cX9_change 48 = .ok (.goto 66, 3) := by decide +kernel
theorem dX9_change_51 : decode cX9_change 51 = .ok (.aload_n 0, 1) := by decide +kernel
theorem dX9_change_52 : decode cX9_change 52 = .ok (.getfield 12, 3) := by decide +kernel
theorem dX9_change_55 : decode cX9_change 55 = .ok (.getfield 31, 3) := by decide +kernel
theorem dX9_change_58 : decode cX9_change 58 = .ok (.iconst 0, 1) := by decide +kernel
theorem dX9_change_59 : decode cX9_change 59 = .ok (.iload_n 3, 1) := by decide +kernel
theorem dX9_change_60 : decode cX9_change 60 = .ok (.invokestatic 119, 3) := by decide +kernel
theorem dX9_change_63 : decode cX9_change 63 = .ok (.ifCond .eq 49, 3) := by decide +kernel
theorem dX9_change_66 : decode cX9_change 66 = .ok (.aload_n 0, 1) := by decide +kernel
theorem dX9_change_67 : decode cX9_change 67 = .ok (.getfield 12, 3) := by decide +kernel
theorem dX9_change_70 : decode cX9_change 70 = .ok (.getfield 31, 3) := by decide +kernel
theorem dX9_change_73 : decode cX9_change 73 = .ok (.iconst 0, 1) := by decide +kernel
theorem dX9_change_74 : decode cX9_change 74 = .ok (.iload_n 3, 1) := by decide +kernel
theorem dX9_change_75 : decode cX9_change 75 = .ok (.aload_n 0, 1) := by decide +kernel
theorem dX9_change_76 : decode cX9_change 76 = .ok (.getfield 22, 3) := by decide +kernel
theorem dX9_change_79 : decode cX9_change 79 = .ok (.iload_n 2, 1) := by decide +kernel
theorem dX9_change_80 : decode cX9_change 80 = .ok (.invokevirtual 125, 3) := by decide +kernel
theorem dX9_change_83 : decode cX9_change 83 = .ok (.invokestatic 129, 3) := by decide +kernel
theorem dX9_change_86 : decode cX9_change 86 = .ok (.ifCond .eq 26, 3) := by decide +kernel
theorem dX9_change_89 : decode cX9_change 89 = .ok (.aload_n 0, 1) := by decide +kernel
theorem dX9_change_90 : decode cX9_change 90 = .ok (.getfield 45, 3) := by decide +kernel
theorem dX9_change_93 : decode cX9_change 93 = .ok (.iload_n 1, 1) := by decide +kernel
theorem dX9_change_94 : decode cX9_change 94 = .ok (.iload_n 2, 1) := by decide +kernel
theorem dX9_change_95 : decode cX9_change 95 = .ok (.aload_n 0, 1) := by decide +kernel
theorem dX9_change_96 : decode cX9_change 96 = .ok (.getfield 12, 3) := by decide +kernel
theorem dX9_change_99 : decode cX9_change 99 = .ok (.getfield 31, 3) := by decide +kernel
theorem dX9_change_102 : decode cX9_change 102 = .ok (.iload_n 3, 1) := by decide +kernel
theorem dX9_change_103 : decode cX9_change 103 = .ok (.invokestatic 133, 3) := by decide +kernel
theorem dX9_change_106 : decode cX9_change 106 = .ok (.invokevirtual 139, 3) := by decide +kernel
theorem dX9_change_109 : decode cX9_change 109 = .ok (.goto 5, 3) := by decide +kernel
theorem dX9_change_112 : decode cX9_change 112 = .ok (.iconst 0, 1) := by decide +kernel
theorem dX9_change_113 : decode cX9_change 113 = .ok (.ireturn, 1) := by decide +kernel
theorem dX9_change_114 : decode cX9_change 114 = .ok (.aload_n 0, 1) := by decide +kernel
theorem dX9_change_115 : decode cX9_change 115 = .ok (.getfield 12, 3) := by decide +kernel
theorem dX9_change_118 : decode cX9_change 118 = .ok (.invokevirtual 87, 3) := by decide +kernel
theorem dX9_change_121 : decode cX9_change 121 = .ok (.iconst 1, 1) := by decide +kernel
theorem dX9_change_122 : decode cX9_change 122 = .ok (.ireturn, 1) := by decide +kernel
theorem dX9_heard_0 : decode cX9_heard 0 = .ok (.iload_n 1, 1) := by decide +kernel
theorem dX9_heard_1 : decode cX9_heard 1 = .ok (.iconst 1, 1) := by decide +kernel
theorem dX9_heard_2 : decode cX9_heard 2 = .ok (.if_icmp .lt 20, 3) := by decide +kernel
theorem dX9_heard_5 : decode cX9_heard 5 = .ok (.iload_n 1, 1) := by decide +kernel
theorem dX9_heard_6 : decode cX9_heard 6 = .ok (.sipush 999, 3) := by decide +kernel
theorem dX9_heard_9 : decode cX9_heard 9 = .ok (.if_icmp .gt 13, 3) := by decide +kernel
theorem dX9_heard_12 : decode cX9_heard 12 = .ok (.aload_n 0, 1) := by decide +kernel
theorem dX9_heard_13 : decode cX9_heard 13 = .ok (.getfield 54, 3) := by decide +kernel
theorem dX9_heard_16 : decode cX9_heard 16 = .ok (.getfield 143, 3) := by decide +kernel
theorem dX9_heard_19 : decode cX9_heard 19 = .ok (.ifCond .ne 5, 3) := by decide +kernel
theorem dX9_heard_22 : decode cX9_heard 22 = .ok (.iconst (-1), 1) := by decide +kernel
theorem dX9_heard_23 : decode cX9_heard 23 = .ok (.ireturn, 1) := by decide +kernel
theorem dX9_heard_24 : decode cX9_heard 24 = .ok (.aload_n 0, 1) := by decide +kernel
theorem dX9_heard_25 : decode cX9_heard 25 = .ok (.getfield 54, 3) := by decide +kernel
theorem dX9_heard_28 : decode cX9_heard 28 = .ok (.iload_n 1, 1) := by decide +kernel
theorem dX9_heard_29 : decode cX9_heard 29 = .ok (.invokevirtual 147, 3) := by decide +kernel
theorem dX9_heard_32 : decode cX9_heard 32 = .ok (.aload_n 0, 1) := by decide +kernel
theorem dX9_heard_33 : decode cX9_heard 33 = .ok (.getfield 54, 3) := by decide +kernel
theorem dX9_heard_36 : decode cX9_heard 36 = .ok (.getfield 150, 3) := by decide +kernel
theorem dX9_heard_39 : decode cX9_heard 39 = .ok (.ireturn, 1) := by decide +kernel
theorem dX9_hand_0 : decode cX9_hand 0 = .ok (.iload_n 1, 1) := by decide +kernel
theorem dX9_hand_1 : decode cX9_hand 1 = .ok (.ifCond .lt 10, 3) := by decide +kernel
theorem dX9_hand_4 : decode cX9_hand 4 = .ok (.iload_n 1, 1) := by decide +kernel
theorem dX9_hand_5 : decode cX9_hand 5 = .ok (.sipush 999, 3) := by decide +kernel
theorem dX9_hand_8 : decode cX9_hand 8 = .ok (.if_icmp .le 5, 3) := by decide +kernel
theorem dX9_hand_11 : decode cX9_hand 11 = .ok (.iconst (-1), 1) := by decide +kernel
theorem dX9_hand_12 : decode cX9_hand 12 = .ok (.ireturn, 1) := by decide +kernel
theorem dX9_hand_13 : decode cX9_hand 13 = .ok (.aload_n 0, 1) := by decide +kernel
theorem dX9_hand_14 : decode cX9_hand 14 = .ok (.getfield 54, 3) := by decide +kernel
theorem dX9_hand_17 : decode cX9_hand 17 = .ok (.iload_n 1, 1) := by decide +kernel
theorem dX9_hand_18 : decode cX9_hand 18 = .ok (.iload_n 2, 1) := by decide +kernel
theorem dX9_hand_19 : decode cX9_hand 19 = .ok (.invokevirtual 153, 3) := by decide +kernel
theorem dX9_hand_22 : decode cX9_hand 22 = .ok (.aload_n 0, 1) := by decide +kernel
theorem dX9_hand_23 : decode cX9_hand 23 = .ok (.getfield 54, 3) := by decide +kernel
theorem dX9_hand_26 : decode cX9_hand 26 = .ok (.getfield 150, 3) := by decide +kernel
theorem dX9_hand_29 : decode cX9_hand 29 = .ok (.ireturn, 1) := by decide +kernel
theorem dX9_title_0 : decode cX9_title 0 = .ok (.aload_n 0, 1) := by decide +kernel
theorem dX9_title_1 : decode cX9_title 1 = .ok (.getfield 22, 3) := by decide +kernel
theorem dX9_title_4 : decode cX9_title 4 = .ok (.iload_n 1, 1) := by decide +kernel
theorem dX9_title_5 : decode cX9_title 5 = .ok (.invokevirtual 109, 3) := by decide +kernel
theorem dX9_title_8 : decode cX9_title 8 = .ok (.ifCond .ne 13, 3) := by decide +kernel
theorem dX9_title_11 : decode cX9_title 11 = .ok (.new 156, 3) := by decide +kernel
theorem dX9_title_14 : decode cX9_title 14 = .ok (.dup, 1) := by decide +kernel
theorem dX9_title_15 : decode cX9_title 15 = .ok (.ldc 158, 2) := by decide +kernel
theorem dX9_title_17 : decode cX9_title 17 = .ok (.invokespecial 160, 3) := by decide +kernel
theorem dX9_title_20 : decode cX9_title 20 = .ok (.athrow, 1) := by decide +kernel
theorem dX9_title_21 : decode cX9_title 21 = .ok (.iload_n 2, 1) := by decide +kernel
theorem dX9_title_22 : decode cX9_title 22 = .ok (.tableswitch 89 0 4 #[34, 43, 52, 58, 72], 34) := by decide +kernel
theorem dX9_title_56 : decode cX9_title 56 = .ok (.aload_n 0, 1) := by decide +kernel
theorem dX9_title_57 : decode cX9_title 57 = .ok (.getfield 22, 3) := by decide +kernel
theorem dX9_title_60 : decode cX9_title 60 = .ok (.iload_n 1, 1) := by decide +kernel
theorem dX9_title_61 : decode cX9_title 61 = .ok (.invokevirtual 163, 3) := by decide +kernel
theorem dX9_title_64 : decode cX9_title 64 = .ok (.ireturn, 1) := by decide +kernel
theorem dX9_title_65 : decode cX9_title 65 = .ok (.aload_n 0, 1) := by decide +kernel
theorem dX9_title_66 : decode cX9_title 66 = .ok (.getfield 45, 3) := by decide +kernel
theorem dX9_title_69 : decode cX9_title 69 = .ok (.iload_n 1, 1) := by decide +kernel
theorem dX9_title_70 : decode cX9_title 70 = .ok (.invokevirtual 166, 3) := by decide +kernel
theorem dX9_title_73 : decode cX9_title 73 = .ok (.ireturn, 1) := by decide +kernel
theorem dX9_title_74 : decode cX9_title 74 = .ok (.aload_n 0, 1) := by decide +kernel
theorem dX9_title_75 : decode cX9_title 75 = .ok (.iload_n 1, 1) := by decide +kernel
theorem dX9_title_76 : decode cX9_title 76 = .ok (.invokevirtual 169, 3) := by decide +kernel
theorem dX9_title_79 : decode cX9_title 79 = .ok (.ireturn, 1) := by decide +kernel
theorem dX9_title_80 : decode cX9_title 80 = .ok (.aload_n 0, 1) := by decide +kernel
theorem dX9_title_81 : decode cX9_title 81 = .ok (.getfield 45, 3) := by decide +kernel
theorem dX9_title_84 : decode cX9_title 84 = .ok (.iload_n 1, 1) := by decide +kernel
theorem dX9_title_85 : decode cX9_title 85 = .ok (.aload_n 0, 1) := by decide +kernel
theorem dX9_title_86 : decode cX9_title 86 = .ok (.iload_n 1, 1) := by decide +kernel
theorem dX9_title_87 : decode cX9_title 87 = .ok (.invokevirtual 169, 3) := by decide +kernel
theorem dX9_title_90 : decode cX9_title 90 = .ok (.invokevirtual 172, 3) := by decide +kernel
theorem dX9_title_93 : decode cX9_title 93 = .ok (.ireturn, 1) := by decide +kernel
theorem dX9_title_94 : decode cX9_title 94 = .ok (.aload_n 0, 1) := by decide +kernel
theorem dX9_title_95 : decode cX9_title 95 = .ok (.getfield 45, 3) := by decide +kernel
theorem dX9_title_98 : decode cX9_title 98 = .ok (.iload_n 1, 1) := by decide +kernel
theorem dX9_title_99 : decode cX9_title 99 = .ok (.invokevirtual 176, 3) := by decide +kernel
theorem dX9_title_102 : decode cX9_title 102 = .ok (.ifCond .eq 7, 3) := by decide +kernel
theorem dX9_title_105 : decode cX9_title 105 = .ok (.iconst 1, 1) := by decide +kernel
theorem dX9_title_106 : decode cX9_title 106 = .ok (.goto 4, 3) := by decide +kernel
theorem dX9_title_109 : decode cX9_title 109 = .ok (.iconst 0, 1) := by decide +kernel
theorem dX9_title_110 : decode cX9_title 110 = .ok (.ireturn, 1) := by decide +kernel
theorem dX9_title_111 : decode cX9_title 111 = .ok (.new 179, 3) := by decide +kernel
theorem dX9_title_114 : decode cX9_title 114 = .ok (.dup, 1) := by decide +kernel
theorem dX9_title_115 : decode cX9_title 115 = .ok (.ldc 181, 2) := by decide +kernel
theorem dX9_title_117 : decode cX9_title 117 = .ok (.invokespecial 183, 3) := by decide +kernel
theorem dX9_title_120 : decode cX9_title 120 = .ok (.athrow, 1) := by decide +kernel
theorem dX9_pages_0 : decode cX9_pages 0 = .ok (.aload_n 0, 1) := by decide +kernel
theorem dX9_pages_1 : decode cX9_pages 1 = .ok (.iload_n 1, 1) := by decide +kernel
theorem dX9_pages_2 : decode cX9_pages 2 = .ok (.iload_n 2, 1) := by decide +kernel
theorem dX9_pages_3 : decode cX9_pages 3 = .ok (.invokevirtual 184, 3) := by decide +kernel
theorem dX9_pages_6 : decode cX9_pages 6 = .ok (.aload_n 0, 1) := by decide +kernel
theorem dX9_pages_7 : decode cX9_pages 7 = .ok (.getfield 45, 3) := by decide +kernel
theorem dX9_pages_10 : decode cX9_pages 10 = .ok (.iload_n 1, 1) := by decide +kernel
theorem dX9_pages_11 : decode cX9_pages 11 = .ok (.iload_n 2, 1) := by decide +kernel
theorem dX9_pages_12 : decode cX9_pages 12 = .ok (.invokevirtual 187, 3) := by decide +kernel
theorem dX9_pages_15 : decode cX9_pages 15 = .ok (.getfield 191, 3) := by decide +kernel
theorem dX9_pages_18 : decode cX9_pages 18 = .ok (.ireturn, 1) := by decide +kernel
theorem dX9_price_0 : decode cX9_price 0 = .ok (.aload_n 0, 1) := by decide +kernel
theorem dX9_price_1 : decode cX9_price 1 = .ok (.iload_n 1, 1) := by decide +kernel
theorem dX9_price_2 : decode cX9_price 2 = .ok (.iload_n 2, 1) := by decide +kernel
theorem dX9_price_3 : decode cX9_price 3 = .ok (.invokevirtual 184, 3) := by decide +kernel
theorem dX9_price_6 : decode cX9_price 6 = .ok (.aload_n 0, 1) := by decide +kernel
theorem dX9_price_7 : decode cX9_price 7 = .ok (.getfield 45, 3) := by decide +kernel
theorem dX9_price_10 : decode cX9_price 10 = .ok (.iload_n 1, 1) := by decide +kernel
theorem dX9_price_11 : decode cX9_price 11 = .ok (.iload_n 2, 1) := by decide +kernel
theorem dX9_price_12 : decode cX9_price 12 = .ok (.invokevirtual 187, 3) := by decide +kernel
theorem dX9_price_15 : decode cX9_price 15 = .ok (.getfield 196, 3) := by decide +kernel
theorem dX9_price_18 : decode cX9_price 18 = .ok (.ireturn, 1) := by decide +kernel
theorem dX9_refuseUnknown_0 : decode cX9_refuseUnknown 0 = .ok (.aload_n 0, 1) := by decide +kernel
theorem dX9_refuseUnknown_1 : decode cX9_refuseUnknown 1 = .ok (.getfield 22, 3) := by decide +kernel
theorem dX9_refuseUnknown_4 : decode cX9_refuseUnknown 4 = .ok (.iload_n 1, 1) := by decide +kernel
theorem dX9_refuseUnknown_5 : decode cX9_refuseUnknown 5 = .ok (.invokevirtual 109, 3) := by decide +kernel
theorem dX9_refuseUnknown_8 : decode cX9_refuseUnknown 8 = .ok (.ifCond .ne 13, 3) := by decide +kernel
theorem dX9_refuseUnknown_11 : decode cX9_refuseUnknown 11 = .ok (.new 156, 3) := by decide +kernel
theorem dX9_refuseUnknown_14 : decode cX9_refuseUnknown 14 = .ok (.dup, 1) := by decide +kernel
theorem dX9_refuseUnknown_15 : decode cX9_refuseUnknown 15 = .ok (.ldc 158, 2) := by decide +kernel
theorem dX9_refuseUnknown_17 : decode cX9_refuseUnknown 17 = .ok (.invokespecial 160, 3) := by decide +kernel
theorem dX9_refuseUnknown_20 : decode cX9_refuseUnknown 20 = .ok (.athrow, 1) := by decide +kernel
theorem dX9_refuseUnknown_21 : decode cX9_refuseUnknown 21 = .ok (.aload_n 0, 1) := by decide +kernel
theorem dX9_refuseUnknown_22 : decode cX9_refuseUnknown 22 = .ok (.getfield 22, 3) := by decide +kernel
theorem dX9_refuseUnknown_25 : decode cX9_refuseUnknown 25 = .ok (.iload_n 2, 1) := by decide +kernel
theorem dX9_refuseUnknown_26 : decode cX9_refuseUnknown 26 = .ok (.invokevirtual 112, 3) := by decide +kernel
theorem dX9_refuseUnknown_29 : decode cX9_refuseUnknown 29 = .ok (.ifCond .ne 13, 3) := by decide +kernel
theorem dX9_refuseUnknown_32 : decode cX9_refuseUnknown 32 = .ok (.new 179, 3) := by decide +kernel
theorem dX9_refuseUnknown_35 : decode cX9_refuseUnknown 35 = .ok (.dup, 1) := by decide +kernel
theorem dX9_refuseUnknown_36 : decode cX9_refuseUnknown 36 = .ok (.ldc 199, 2) := by decide +kernel
theorem dX9_refuseUnknown_38 : decode cX9_refuseUnknown 38 = .ok (.invokespecial 183, 3) := by decide +kernel
theorem dX9_refuseUnknown_41 : decode cX9_refuseUnknown 41 = .ok (.athrow, 1) := by decide +kernel
theorem dX9_refuseUnknown_42 : decode cX9_refuseUnknown 42 = .ok (.return_, 1) := by decide +kernel
theorem dX9_sign_0 : decode cX9_sign 0 = .ok (.aload_n 0, 1) := by decide +kernel
theorem dX9_sign_1 : decode cX9_sign 1 = .ok (.getfield 45, 3) := by decide +kernel
theorem dX9_sign_4 : decode cX9_sign 4 = .ok (.iload_n 1, 1) := by decide +kernel
theorem dX9_sign_5 : decode cX9_sign 5 = .ok (.iload_n 2, 1) := by decide +kernel
theorem dX9_sign_6 : decode cX9_sign 6 = .ok (.invokevirtual 187, 3) := by decide +kernel
theorem dX9_sign_9 : decode cX9_sign 9 = .ok (.iload_n 3, 1) := by decide +kernel
theorem dX9_sign_10 : decode cX9_sign 10 = .ok (.iload 4, 2) := by decide +kernel
theorem dX9_sign_12 : decode cX9_sign 12 = .ok (.iload 5, 2) := by decide +kernel
theorem dX9_sign_14 : decode cX9_sign 14 = .ok (.invokevirtual 201, 3) := by decide +kernel
theorem dX9_sign_17 : decode cX9_sign 17 = .ok (.ireturn, 1) := by decide +kernel
theorem dX9_shown_0 : decode cX9_shown 0 = .ok (.aload_n 0, 1) := by decide +kernel
theorem dX9_shown_1 : decode cX9_shown 1 = .ok (.getfield 22, 3) := by decide +kernel
theorem dX9_shown_4 : decode cX9_shown 4 = .ok (.aload_n 0, 1) := by decide +kernel
theorem dX9_shown_5 : decode cX9_shown 5 = .ok (.getfield 54, 3) := by decide +kernel
theorem dX9_shown_8 : decode cX9_shown 8 = .ok (.getfield 150, 3) := by decide +kernel
theorem dX9_shown_11 : decode cX9_shown 11 = .ok (.invokevirtual 205, 3) := by decide +kernel
theorem dX9_shown_14 : decode cX9_shown 14 = .ok (.istore_n 2, 1) := by decide +kernel
theorem dX9_shown_15 : decode cX9_shown 15 = .ok (.iload_n 2, 1) := by decide +kernel
theorem dX9_shown_16 : decode cX9_shown 16 = .ok (.iconst (-1), 1) := by decide +kernel
theorem dX9_shown_17 : decode cX9_shown 17 = .ok (.if_icmp .ne 5, 3) := by decide +kernel
theorem dX9_shown_20 : decode cX9_shown 20 = .ok (.iconst (-1), 1) := by decide +kernel
theorem dX9_shown_21 : decode cX9_shown 21 = .ok (.ireturn, 1) := by decide +kernel
theorem dX9_shown_22 : decode cX9_shown 22 = .ok (.iload_n 1, 1) := by decide +kernel
theorem dX9_shown_23 : decode cX9_shown 23 = .ok (.tableswitch 59 0 5 #[37, 39, 45, 45, 45, 45], 37) := by decide +kernel
theorem dX9_shown_60 : decode cX9_shown 60 = .ok (.iload_n 2, 1) := by decide +kernel
theorem dX9_shown_61 : decode cX9_shown 61 = .ok (.ireturn, 1) := by decide +kernel
theorem dX9_shown_62 : decode cX9_shown 62 = .ok (.aload_n 0, 1) := by decide +kernel
theorem dX9_shown_63 : decode cX9_shown 63 = .ok (.iload_n 2, 1) := by decide +kernel
theorem dX9_shown_64 : decode cX9_shown 64 = .ok (.invokevirtual 208, 3) := by decide +kernel
theorem dX9_shown_67 : decode cX9_shown 67 = .ok (.ireturn, 1) := by decide +kernel
theorem dX9_shown_68 : decode cX9_shown 68 = .ok (.aload_n 0, 1) := by decide +kernel
theorem dX9_shown_69 : decode cX9_shown 69 = .ok (.iload_n 2, 1) := by decide +kernel
theorem dX9_shown_70 : decode cX9_shown 70 = .ok (.iload_n 1, 1) := by decide +kernel
theorem dX9_shown_71 : decode cX9_shown 71 = .ok (.iconst 2, 1) := by decide +kernel
theorem dX9_shown_72 : decode cX9_shown 72 = .ok (.isub, 1) := by decide +kernel
theorem dX9_shown_73 : decode cX9_shown 73 = .ok (.aload_n 0, 1) := by decide +kernel
theorem dX9_shown_74 : decode cX9_shown 74 = .ok (.iload_n 2, 1) := by decide +kernel
theorem dX9_shown_75 : decode cX9_shown 75 = .ok (.invokevirtual 208, 3) := by decide +kernel
theorem dX9_shown_78 : decode cX9_shown 78 = .ok (.invokevirtual 211, 3) := by decide +kernel
theorem dX9_shown_81 : decode cX9_shown 81 = .ok (.ireturn, 1) := by decide +kernel
theorem dX9_shown_82 : decode cX9_shown 82 = .ok (.iconst (-1), 1) := by decide +kernel
theorem dX9_shown_83 : decode cX9_shown 83 = .ok (.ireturn, 1) := by decide +kernel
theorem dX9_now_0 : decode cX9_now 0 = .ok (.aload_n 0, 1) := by decide +kernel
theorem dX9_now_1 : decode cX9_now 1 = .ok (.getfield 22, 3) := by decide +kernel
theorem dX9_now_4 : decode cX9_now 4 = .ok (.aload_n 0, 1) := by decide +kernel
theorem dX9_now_5 : decode cX9_now 5 = .ok (.getfield 54, 3) := by decide +kernel
theorem dX9_now_8 : decode cX9_now 8 = .ok (.getfield 150, 3) := by decide +kernel
theorem dX9_now_11 : decode cX9_now 11 = .ok (.invokevirtual 205, 3) := by decide +kernel
theorem dX9_now_14 : decode cX9_now 14 = .ok (.istore 4, 2) := by decide +kernel
theorem dX9_now_16 : decode cX9_now 16 = .ok (.iload 4, 2) := by decide +kernel
theorem dX9_now_18 : decode cX9_now 18 = .ok (.iconst (-1), 1) := by decide +kernel
theorem dX9_now_19 : decode cX9_now 19 = .ok (.if_icmp .ne 5, 3) := by decide +kernel
theorem dX9_now_22 : decode cX9_now 22 = .ok (.iconst (-1), 1) := by decide +kernel
theorem dX9_now_23 : decode cX9_now 23 = .ok (.ireturn, 1) := by decide +kernel
theorem dX9_now_24 : decode cX9_now 24 = .ok (.aload_n 0, 1) := by decide +kernel
theorem dX9_now_25 : decode cX9_now 25 = .ok (.iload 4, 2) := by decide +kernel
theorem dX9_now_27 : decode cX9_now 27 = .ok (.iload_n 1, 1) := by decide +kernel
theorem dX9_now_28 : decode cX9_now 28 = .ok (.aload_n 0, 1) := by decide +kernel
theorem dX9_now_29 : decode cX9_now 29 = .ok (.iload 4, 2) := by decide +kernel
theorem dX9_now_31 : decode cX9_now 31 = .ok (.invokevirtual 208, 3) := by decide +kernel
theorem dX9_now_34 : decode cX9_now 34 = .ok (.invokevirtual 211, 3) := by decide +kernel
theorem dX9_now_37 : decode cX9_now 37 = .ok (.istore 5, 2) := by decide +kernel
theorem dX9_now_39 : decode cX9_now 39 = .ok (.aload_n 0, 1) := by decide +kernel
theorem dX9_now_40 : decode cX9_now 40 = .ok (.getfield 45, 3) := by decide +kernel
theorem dX9_now_43 : decode cX9_now 43 = .ok (.iload 4, 2) := by decide +kernel
theorem dX9_now_45 : decode cX9_now 45 = .ok (.iload_n 1, 1) := by decide +kernel
theorem dX9_now_46 : decode cX9_now 46 = .ok (.invokevirtual 187, 3) := by decide +kernel
theorem dX9_now_49 : decode cX9_now 49 = .ok (.iload 5, 2) := by decide +kernel
theorem dX9_now_51 : decode cX9_now 51 = .ok (.iload_n 2, 1) := by decide +kernel
theorem dX9_now_52 : decode cX9_now 52 = .ok (.iload_n 3, 1) := by decide +kernel
theorem dX9_now_53 : decode cX9_now 53 = .ok (.invokevirtual 201, 3) := by decide +kernel
theorem dX9_now_56 : decode cX9_now 56 = .ok (.ireturn, 1) := by decide +kernel
theorem dX9_count_0 : decode cX9_count 0 = .ok (.iload_n 1, 1) := by decide +kernel
theorem dX9_count_1 : decode cX9_count 1 = .ok (.tableswitch 133 0 8 #[51, 59, 67, 75, 83, 99, 107, 116, 125], 51) := by decide +kernel
theorem dX9_count_52 : decode cX9_count 52 = .ok (.aload_n 0, 1) := by decide +kernel
theorem dX9_count_53 : decode cX9_count 53 = .ok (.getfield 22, 3) := by decide +kernel
theorem dX9_count_56 : decode cX9_count 56 = .ok (.getfield 214, 3) := by decide +kernel
theorem dX9_count_59 : decode cX9_count 59 = .ok (.ireturn, 1) := by decide +kernel
theorem dX9_count_60 : decode cX9_count 60 = .ok (.aload_n 0, 1) := by decide +kernel
theorem dX9_count_61 : decode cX9_count 61 = .ok (.getfield 22, 3) := by decide +kernel
theorem dX9_count_64 : decode cX9_count 64 = .ok (.getfield 90, 3) := by decide +kernel
theorem dX9_count_67 : decode cX9_count 67 = .ok (.ireturn, 1) := by decide +kernel
theorem dX9_count_68 : decode cX9_count 68 = .ok (.aload_n 0, 1) := by decide +kernel
theorem dX9_count_69 : decode cX9_count 69 = .ok (.getfield 22, 3) := by decide +kernel
theorem dX9_count_72 : decode cX9_count 72 = .ok (.getfield 217, 3) := by decide +kernel
theorem dX9_count_75 : decode cX9_count 75 = .ok (.ireturn, 1) := by decide +kernel
theorem dX9_count_76 : decode cX9_count 76 = .ok (.aload_n 0, 1) := by decide +kernel
theorem dX9_count_77 : decode cX9_count 77 = .ok (.getfield 54, 3) := by decide +kernel
theorem dX9_count_80 : decode cX9_count 80 = .ok (.getfield 150, 3) := by decide +kernel
theorem dX9_count_83 : decode cX9_count 83 = .ok (.ireturn, 1) := by decide +kernel
theorem dX9_count_84 : decode cX9_count 84 = .ok (.aload_n 0, 1) := by decide +kernel
theorem dX9_count_85 : decode cX9_count 85 = .ok (.getfield 54, 3) := by decide +kernel
theorem dX9_count_88 : decode cX9_count 88 = .ok (.getfield 143, 3) := by decide +kernel
theorem dX9_count_91 : decode cX9_count 91 = .ok (.ifCond .eq 7, 3) := by decide +kernel
theorem dX9_count_94 : decode cX9_count 94 = .ok (.iconst 1, 1) := by decide +kernel
theorem dX9_count_95 : decode cX9_count 95 = .ok (.goto 4, 3) := by decide +kernel
theorem dX9_count_98 : decode cX9_count 98 = .ok (.iconst 0, 1) := by decide +kernel
theorem dX9_count_99 : decode cX9_count 99 = .ok (.ireturn, 1) := by decide +kernel
theorem dX9_count_100 : decode cX9_count 100 = .ok (.aload_n 0, 1) := by decide +kernel
theorem dX9_count_101 : decode cX9_count 101 = .ok (.getfield 54, 3) := by decide +kernel
theorem dX9_count_104 : decode cX9_count 104 = .ok (.getfield 220, 3) := by decide +kernel
theorem dX9_count_107 : decode cX9_count 107 = .ok (.ireturn, 1) := by decide +kernel
theorem dX9_count_108 : decode cX9_count 108 = .ok (.aload_n 0, 1) := by decide +kernel
theorem dX9_count_109 : decode cX9_count 109 = .ok (.getfield 22, 3) := by decide +kernel
theorem dX9_count_112 : decode cX9_count 112 = .ok (.iconst 0, 1) := by decide +kernel
theorem dX9_count_113 : decode cX9_count 113 = .ok (.invokevirtual 125, 3) := by decide +kernel
theorem dX9_count_116 : decode cX9_count 116 = .ok (.ireturn, 1) := by decide +kernel
theorem dX9_count_117 : decode cX9_count 117 = .ok (.aload_n 0, 1) := by decide +kernel
theorem dX9_count_118 : decode cX9_count 118 = .ok (.getfield 22, 3) := by decide +kernel
theorem dX9_count_121 : decode cX9_count 121 = .ok (.iconst 0, 1) := by decide +kernel
theorem dX9_count_122 : decode cX9_count 122 = .ok (.invokevirtual 223, 3) := by decide +kernel
theorem dX9_count_125 : decode cX9_count 125 = .ok (.ireturn, 1) := by decide +kernel
theorem dX9_count_126 : decode cX9_count 126 = .ok (.aload_n 0, 1) := by decide +kernel
theorem dX9_count_127 : decode cX9_count 127 = .ok (.getfield 22, 3) := by decide +kernel
theorem dX9_count_130 : decode cX9_count 130 = .ok (.invokevirtual 226, 3) := by decide +kernel
theorem dX9_count_133 : decode cX9_count 133 = .ok (.ireturn, 1) := by decide +kernel
theorem dX9_count_134 : decode cX9_count 134 = .ok (.iconst (-1), 1) := by decide +kernel
theorem dX9_count_135 : decode cX9_count 135 = .ok (.ireturn, 1) := by decide +kernel
theorem dX9_countedBarsOf_0 : decode cX9_countedBarsOf 0 = .ok (.aload_n 0, 1) := by decide +kernel
theorem dX9_countedBarsOf_1 : decode cX9_countedBarsOf 1 = .ok (.getfield 54, 3) := by decide +kernel
theorem dX9_countedBarsOf_4 : decode cX9_countedBarsOf 4 = .ok (.aload_n 0, 1) := by decide +kernel
theorem dX9_countedBarsOf_5 : decode cX9_countedBarsOf 5 = .ok (.getfield 22, 3) := by decide +kernel
theorem dX9_countedBarsOf_8 : decode cX9_countedBarsOf 8 = .ok (.iload_n 1, 1) := by decide +kernel
theorem dX9_countedBarsOf_9 : decode cX9_countedBarsOf 9 = .ok (.invokevirtual 163, 3) := by decide +kernel
theorem dX9_countedBarsOf_12 : decode cX9_countedBarsOf 12 = .ok (.aload_n 0, 1) := by decide +kernel
theorem dX9_countedBarsOf_13 : decode cX9_countedBarsOf 13 = .ok (.getfield 22, 3) := by decide +kernel
theorem dX9_countedBarsOf_16 : decode cX9_countedBarsOf 16 = .ok (.iload_n 1, 1) := by decide +kernel
theorem dX9_countedBarsOf_17 : decode cX9_countedBarsOf 17 = .ok (.invokevirtual 230, 3) := by decide +kernel
theorem dX9_countedBarsOf_20 : decode cX9_countedBarsOf 20 = .ok (.invokevirtual 233, 3) := by decide +kernel
theorem dX9_countedBarsOf_23 : decode cX9_countedBarsOf 23 = .ok (.ireturn, 1) := by decide +kernel
theorem dX9_shownStep_0 : decode cX9_shownStep 0 = .ok (.aload_n 0, 1) := by decide +kernel
theorem dX9_shownStep_1 : decode cX9_shownStep 1 = .ok (.getfield 54, 3) := by decide +kernel
theorem dX9_shownStep_4 : decode cX9_shownStep 4 = .ok (.aload_n 0, 1) := by decide +kernel
theorem dX9_shownStep_5 : decode cX9_shownStep 5 = .ok (.getfield 22, 3) := by decide +kernel
theorem dX9_shownStep_8 : decode cX9_shownStep 8 = .ok (.iload_n 1, 1) := by decide +kernel
theorem dX9_shownStep_9 : decode cX9_shownStep 9 = .ok (.invokevirtual 163, 3) := by decide +kernel
theorem dX9_shownStep_12 : decode cX9_shownStep 12 = .ok (.aload_n 0, 1) := by decide +kernel
theorem dX9_shownStep_13 : decode cX9_shownStep 13 = .ok (.getfield 54, 3) := by decide +kernel
theorem dX9_shownStep_16 : decode cX9_shownStep 16 = .ok (.getfield 150, 3) := by decide +kernel
theorem dX9_shownStep_19 : decode cX9_shownStep 19 = .ok (.invokevirtual 233, 3) := by decide +kernel
theorem dX9_shownStep_22 : decode cX9_shownStep 22 = .ok (.istore_n 2, 1) := by decide +kernel
theorem dX9_shownStep_23 : decode cX9_shownStep 23 = .ok (.aload_n 0, 1) := by decide +kernel
theorem dX9_shownStep_24 : decode cX9_shownStep 24 = .ok (.getfield 45, 3) := by decide +kernel
theorem dX9_shownStep_27 : decode cX9_shownStep 27 = .ok (.iload_n 1, 1) := by decide +kernel
theorem dX9_shownStep_28 : decode cX9_shownStep 28 = .ok (.iload_n 2, 1) := by decide +kernel
theorem dX9_shownStep_29 : decode cX9_shownStep 29 = .ok (.aload_n 0, 1) := by decide +kernel
theorem dX9_shownStep_30 : decode cX9_shownStep 30 = .ok (.iload_n 1, 1) := by decide +kernel
theorem dX9_shownStep_31 : decode cX9_shownStep 31 = .ok (.invokevirtual 169, 3) := by decide +kernel
theorem dX9_shownStep_34 : decode cX9_shownStep 34 = .ok (.invokevirtual 236, 3) := by decide +kernel
theorem dX9_shownStep_37 : decode cX9_shownStep 37 = .ok (.ireturn, 1) := by decide +kernel
theorem dX9_shownPage_0 : decode cX9_shownPage 0 = .ok (.aload_n 0, 1) := by decide +kernel
theorem dX9_shownPage_1 : decode cX9_shownPage 1 = .ok (.getfield 22, 3) := by decide +kernel
theorem dX9_shownPage_4 : decode cX9_shownPage 4 = .ok (.iload_n 2, 1) := by decide +kernel
theorem dX9_shownPage_5 : decode cX9_shownPage 5 = .ok (.invokevirtual 112, 3) := by decide +kernel
theorem dX9_shownPage_8 : decode cX9_shownPage 8 = .ok (.ifCond .eq 16, 3) := by decide +kernel
theorem dX9_shownPage_11 : decode cX9_shownPage 11 = .ok (.aload_n 0, 1) := by decide +kernel
theorem dX9_shownPage_12 : decode cX9_shownPage 12 = .ok (.getfield 45, 3) := by decide +kernel
theorem dX9_shownPage_15 : decode cX9_shownPage 15 = .ok (.iload_n 1, 1) := by decide +kernel
theorem dX9_shownPage_16 : decode cX9_shownPage 16 = .ok (.iload_n 2, 1) := by decide +kernel
theorem dX9_shownPage_17 : decode cX9_shownPage 17 = .ok (.iload_n 3, 1) := by decide +kernel
theorem dX9_shownPage_18 : decode cX9_shownPage 18 = .ok (.invokevirtual 239, 3) := by decide +kernel
theorem dX9_shownPage_21 : decode cX9_shownPage 21 = .ok (.goto 4, 3) := by decide +kernel
theorem dX9_shownPage_24 : decode cX9_shownPage 24 = .ok (.iconst (-1), 1) := by decide +kernel
theorem dX9_shownPage_25 : decode cX9_shownPage 25 = .ok (.ireturn, 1) := by decide +kernel
theorem dX9_share_0 : decode cX9_share 0 = .ok (.iload_n 2, 1) := by decide +kernel
theorem dX9_share_1 : decode cX9_share 1 = .ok (.iconst 1, 1) := by decide +kernel
theorem dX9_share_2 : decode cX9_share 2 = .ok (.if_icmp .ge 7, 3) := by decide +kernel
theorem dX9_share_5 : decode cX9_share 5 = .ok (.iconst 0, 1) := by decide +kernel
theorem dX9_share_6 : decode cX9_share 6 = .ok (.goto 8, 3) := by decide +kernel
theorem dX9_share_9 : decode cX9_share 9 = .ok (.iload_n 0, 1) := by decide +kernel
theorem dX9_share_10 : decode cX9_share 10 = .ok (.iload_n 1, 1) := by decide +kernel
theorem dX9_share_11 : decode cX9_share 11 = .ok (.imul, 1) := by decide +kernel
theorem dX9_share_12 : decode cX9_share 12 = .ok (.iload_n 2, 1) := by decide +kernel
theorem dX9_share_13 : decode cX9_share 13 = .ok (.idiv, 1) := by decide +kernel
theorem dX9_share_14 : decode cX9_share 14 = .ok (.ireturn, 1) := by decide +kernel
theorem dX10_init_0 : decode cX10_init 0 = .ok (.aload_n 0, 1) := by decide +kernel
theorem dX10_init_1 : decode cX10_init 1 = .ok (.invokespecial 1, 3) := by decide +kernel
theorem dX10_init_4 : decode cX10_init 4 = .ok (.aload_n 0, 1) := by decide +kernel
theorem dX10_init_5 : decode cX10_init 5 = .ok (.sipush 1500, 3) := by decide +kernel
theorem dX10_init_8 : decode cX10_init 8 = .ok (.newarray .int, 2) := by decide +kernel
theorem dX10_init_10 : decode cX10_init 10 = .ok (.putfield 7, 3) := by decide +kernel
theorem dX10_init_13 : decode cX10_init 13 = .ok (.aload_n 0, 1) := by decide +kernel
theorem dX10_init_14 : decode cX10_init 14 = .ok (.iconst 1, 1) := by decide +kernel
theorem dX10_init_15 : decode cX10_init 15 = .ok (.putfield 13, 3) := by decide +kernel
theorem dX10_init_18 : decode cX10_init 18 = .ok (.aload_n 0, 1) := by decide +kernel
theorem dX10_init_19 : decode cX10_init 19 = .ok (.iconst 4, 1) := by decide +kernel
theorem dX10_init_20 : decode cX10_init 20 = .ok (.newarray .int, 2) := by decide +kernel
theorem dX10_init_22 : decode cX10_init 22 = .ok (.dup, 1) := by decide +kernel
theorem dX10_init_23 : decode cX10_init 23 = .ok (.iconst 0, 1) := by decide +kernel
theorem dX10_init_24 : decode cX10_init 24 = .ok (.bipush 20, 2) := by decide +kernel
theorem dX10_init_26 : decode cX10_init 26 = .ok (.iastore, 1) := by decide +kernel
theorem dX10_init_27 : decode cX10_init 27 = .ok (.dup, 1) := by decide +kernel
theorem dX10_init_28 : decode cX10_init 28 = .ok (.iconst 1, 1) := by decide +kernel
theorem dX10_init_29 : decode cX10_init 29 = .ok (.bipush 20, 2) := by decide +kernel
theorem dX10_init_31 : decode cX10_init 31 = .ok (.iastore, 1) := by decide +kernel
theorem dX10_init_32 : decode cX10_init 32 = .ok (.dup, 1) := by decide +kernel
theorem dX10_init_33 : decode cX10_init 33 = .ok (.iconst 2, 1) := by decide +kernel
theorem dX10_init_34 : decode cX10_init 34 = .ok (.bipush 20, 2) := by decide +kernel
theorem dX10_init_36 : decode cX10_init 36 = .ok (.iastore, 1) := by decide +kernel
theorem dX10_init_37 : decode cX10_init 37 = .ok (.dup, 1) := by decide +kernel
theorem dX10_init_38 : decode cX10_init 38 = .ok (.iconst 3, 1) := by decide +kernel
theorem dX10_init_39 : decode cX10_init 39 = .ok (.bipush 20, 2) := by decide +kernel
theorem dX10_init_41 : decode cX10_init 41 = .ok (.iastore, 1) := by decide +kernel
theorem dX10_init_42 : decode cX10_init 42 = .ok (.putfield 17, 3) := by decide +kernel
theorem dX10_init_45 : decode cX10_init 45 = .ok (.aload_n 0, 1) := by decide +kernel
theorem dX10_init_46 : decode cX10_init 46 = .ok (.iconst 4, 1) := by decide +kernel
theorem dX10_init_47 : decode cX10_init 47 = .ok (.newarray .int, 2) := by decide +kernel
theorem dX10_init_49 : decode cX10_init 49 = .ok (.dup, 1) := by decide +kernel
theorem dX10_init_50 : decode cX10_init 50 = .ok (.iconst 0, 1) := by decide +kernel
theorem dX10_init_51 : decode cX10_init 51 = .ok (.iconst 4, 1) := by decide +kernel
theorem dX10_init_52 : decode cX10_init 52 = .ok (.iastore, 1) := by decide +kernel
theorem dX10_init_53 : decode cX10_init 53 = .ok (.dup, 1) := by decide +kernel
theorem dX10_init_54 : decode cX10_init 54 = .ok (.iconst 1, 1) := by decide +kernel
theorem dX10_init_55 : decode cX10_init 55 = .ok (.iconst 4, 1) := by decide +kernel
theorem dX10_init_56 : decode cX10_init 56 = .ok (.iastore, 1) := by decide +kernel
theorem dX10_init_57 : decode cX10_init 57 = .ok (.dup, 1) := by decide +kernel
theorem dX10_init_58 : decode cX10_init 58 = .ok (.iconst 2, 1) := by decide +kernel
theorem dX10_init_59 : decode cX10_init 59 = .ok (.iconst 4, 1) := by decide +kernel
theorem dX10_init_60 : decode cX10_init 60 = .ok (.iastore, 1) := by decide +kernel
theorem dX10_init_61 : decode cX10_init 61 = .ok (.dup, 1) := by decide +kernel
theorem dX10_init_62 : decode cX10_init 62 = .ok (.iconst 3, 1) := by decide +kernel
theorem dX10_init_63 : decode cX10_init 63 = .ok (.iconst 4, 1) := by decide +kernel
theorem dX10_init_64 : decode cX10_init 64 = .ok (.iastore, 1) := by decide +kernel
theorem dX10_init_65 : decode cX10_init 65 = .ok (.putfield 20, 3) := by decide +kernel
theorem dX10_init_68 : decode cX10_init 68 = .ok (.aload_n 0, 1) := by decide +kernel
theorem dX10_init_69 : decode cX10_init 69 = .ok (.iconst 4, 1) := by decide +kernel
theorem dX10_init_70 : decode cX10_init 70 = .ok (.putfield 23, 3) := by decide +kernel
theorem dX10_init_73 : decode cX10_init 73 = .ok (.aload_n 0, 1) := by decide +kernel
theorem dX10_init_74 : decode cX10_init 74 = .ok (.bipush 40, 2) := by decide +kernel
theorem dX10_init_76 : decode cX10_init 76 = .ok (.newarray .int, 2) := by decide +kernel
theorem dX10_init_78 : decode cX10_init 78 = .ok (.putfield 26, 3) := by decide +kernel
theorem dX10_init_81 : decode cX10_init 81 = .ok (.aload_n 0, 1) := by decide +kernel
theorem dX10_init_82 : decode cX10_init 82 = .ok (.bipush 40, 2) := by decide +kernel
theorem dX10_init_84 : decode cX10_init 84 = .ok (.newarray .int, 2) := by decide +kernel
theorem dX10_init_86 : decode cX10_init 86 = .ok (.putfield 29, 3) := by decide +kernel
theorem dX10_init_89 : decode cX10_init 89 = .ok (.aload_n 0, 1) := by decide +kernel
theorem dX10_init_90 : decode cX10_init 90 = .ok (.bipush 40, 2) := by decide +kernel
theorem dX10_init_92 : decode cX10_init 92 = .ok (.newarray .int, 2) := by decide +kernel
theorem dX10_init_94 : decode cX10_init 94 = .ok (.putfield 32, 3) := by decide +kernel
theorem dX10_init_97 : decode cX10_init 97 = .ok (.aload_n 0, 1) := by decide +kernel
theorem dX10_init_98 : decode cX10_init 98 = .ok (.bipush 8, 2) := by decide +kernel
theorem dX10_init_100 : decode cX10_init 100 = .ok (.newarray .int, 2) := by decide +kernel
theorem dX10_init_102 : decode cX10_init 102 = .ok (.putfield 35, 3) := by decide +kernel
theorem dX10_init_105 : decode cX10_init 105 = .ok (.aload_n 0, 1) := by decide +kernel
theorem dX10_init_106 : decode cX10_init 106 = .ok (.bipush 8, 2) := by decide +kernel
theorem dX10_init_108 : decode cX10_init 108 = .ok (.newarray .int, 2) := by decide +kernel
theorem dX10_init_110 : decode cX10_init 110 = .ok (.putfield 38, 3) := by decide +kernel
theorem dX10_init_113 : decode cX10_init 113 = .ok (.aload_n 0, 1) := by decide +kernel
theorem dX10_init_114 : decode cX10_init 114 = .ok (.ldc 41, 2) := by decide +kernel
theorem dX10_init_116 : decode cX10_init 116 = .ok (.newarray .int, 2) := by decide +kernel
theorem dX10_init_118 : decode cX10_init 118 = .ok (.putfield 42, 3) := by decide +kernel
theorem dX10_init_121 : decode cX10_init 121 = .ok (.aload_n 0, 1) := by decide +kernel
theorem dX10_init_122 : decode cX10_init 122 = .ok (.sipush 160, 3) := by decide +kernel
theorem dX10_init_125 : decode cX10_init 125 = .ok (.newarray .int, 2) := by decide +kernel
theorem dX10_init_127 : decode cX10_init 127 = .ok (.putfield 45, 3) := by decide +kernel
theorem dX10_init_130 : decode cX10_init 130 = .ok (.aload_n 0, 1) := by decide +kernel
theorem dX10_init_131 : decode cX10_init 131 = .ok (.sipush 160, 3) := by decide +kernel
theorem dX10_init_134 : decode cX10_init 134 = .ok (.newarray .boolean, 2) := by decide +kernel
theorem dX10_init_136 : decode cX10_init 136 = .ok (.putfield 48, 3) := by decide +kernel
theorem dX10_init_139 : decode cX10_init 139 = .ok (.aload_n 0, 1) := by decide +kernel
theorem dX10_init_140 : decode cX10_init 140 = .ok (.bipush 8, 2) := by decide +kernel
theorem dX10_init_142 : decode cX10_init 142 = .ok (.newarray .boolean, 2) := by decide +kernel
theorem dX10_init_144 : decode cX10_init 144 = .ok (.putfield 52, 3) := by decide +kernel
theorem dX10_init_147 : decode cX10_init 147 = .ok (.aload_n 0, 1) := by decide +kernel
theorem dX10_init_148 : decode cX10_init 148 = .ok (.sipush 160, 3) := by decide +kernel
theorem dX10_init_151 : decode cX10_init 151 = .ok (.newarray .boolean, 2) := by decide +kernel
theorem dX10_init_153 : decode cX10_init 153 = .ok (.putfield 55, 3) := by decide +kernel
theorem dX10_init_156 : decode cX10_init 156 = .ok (.aload_n 0, 1) := by decide +kernel
theorem dX10_init_157 : decode cX10_init 157 = .ok (.ldc 41, 2) := by decide +kernel
theorem dX10_init_159 : decode cX10_init 159 = .ok (.newarray .int, 2) := by decide +kernel
theorem dX10_init_161 : decode cX10_init 161 = .ok (.putfield 58, 3) := by decide +kernel
theorem dX10_init_164 : decode cX10_init 164 = .ok (.aload_n 0, 1) := by decide +kernel
theorem dX10_init_165 : decode cX10_init 165 = .ok (.sipush 160, 3) := by decide +kernel
theorem dX10_init_168 : decode cX10_init 168 = .ok (.newarray .int, 2) := by decide +kernel
theorem dX10_init_170 : decode cX10_init 170 = .ok (.putfield 61, 3) := by decide +kernel
theorem dX10_init_173 : decode cX10_init 173 = .ok (.aload_n 0, 1) := by decide +kernel
theorem dX10_init_174 : decode cX10_init 174 = .ok (.iconst 1, 1) := by decide +kernel
theorem dX10_init_175 : decode cX10_init 175 = .ok (.putfield 64, 3) := by decide +kernel
theorem dX10_init_178 : decode cX10_init 178 = .ok (.aload_n 0, 1) := by decide +kernel
theorem dX10_init_179 : decode cX10_init 179 = .ok (.sipush 1500, 3) := by decide +kernel
theorem dX10_init_182 : decode cX10_init 182 = .ok (.newarray .int, 2) := by decide +kernel
theorem dX10_init_184 : decode cX10_init 184 = .ok (.putfield 68, 3) := by decide +kernel
theorem dX10_init_187 : decode cX10_init 187 = .ok (.aload_n 0, 1) := by decide +kernel
theorem dX10_init_188 : decode cX10_init 188 = .ok (.sipush 760, 3) := by decide +kernel
theorem dX10_init_191 : decode cX10_init 191 = .ok (.newarray .int, 2) := by decide +kernel
theorem dX10_init_193 : decode cX10_init 193 = .ok (.putfield 71, 3) := by decide +kernel
theorem dX10_init_196 : decode cX10_init 196 = .ok (.aload_n 0, 1) := by decide +kernel
theorem dX10_init_197 : decode cX10_init 197 = .ok (.sipush 760, 3) := by decide +kernel
theorem dX10_init_200 : decode cX10_init 200 = .ok (.newarray .int, 2) := by decide +kernel
theorem dX10_init_202 : decode cX10_init 202 = .ok (.putfield 74, 3) := by decide +kernel
theorem dX10_init_205 : decode cX10_init 205 = .ok (.aload_n 0, 1) := by decide +kernel
theorem dX10_init_206 : decode cX10_init 206 = .ok (.sipush 1778, 3) := by decide +kernel
theorem dX10_init_209 : decode cX10_init 209 = .ok (.newarray .int, 2) := by decide +kernel
theorem dX10_init_211 : decode cX10_init 211 = .ok (.putfield 77, 3) := by decide +kernel
theorem dX10_init_214 : decode cX10_init 214 = .ok (.aload_n 0, 1) := by decide +kernel
theorem dX10_init_215 : decode cX10_init 215 = .ok (.bipush 12, 2) := by decide +kernel
theorem dX10_init_217 : decode cX10_init 217 = .ok (.newarray .int, 2) := by decide +kernel
theorem dX10_init_219 : decode cX10_init 219 = .ok (.putfield 80, 3) := by decide +kernel
theorem dX10_init_222 : decode cX10_init 222 = .ok (.aload_n 0, 1) := by decide +kernel
theorem dX10_init_223 : decode cX10_init 223 = .ok (.iconst (-1), 1) := by decide +kernel
theorem dX10_init_224 : decode cX10_init 224 = .ok (.putfield 83, 3) := by decide +kernel
theorem dX10_init_227 : decode cX10_init 227 = .ok (.aload_n 0, 1) := by decide +kernel
theorem dX10_init_228 : decode cX10_init 228 = .ok (.iconst 4, 1) := by decide +kernel
theorem dX10_init_229 : decode cX10_init 229 = .ok (.newarray .int, 2) := by decide +kernel
theorem dX10_init_231 : decode cX10_init 231 = .ok (.putfield 86, 3) := by decide +kernel
theorem dX10_init_234 : decode cX10_init 234 = .ok (.aload_n 0, 1) := by decide +kernel
theorem dX10_init_235 : decode cX10_init 235 = .ok (.iconst 4, 1) := by decide +kernel
theorem dX10_init_236 : decode cX10_init 236 = .ok (.newarray .int, 2) := by decide +kernel
theorem dX10_init_238 : decode cX10_init 238 = .ok (.putfield 89, 3) := by decide +kernel
theorem dX10_init_241 : decode cX10_init 241 = .ok (.aload_n 0, 1) := by decide +kernel
theorem dX10_init_242 : decode cX10_init 242 = .ok (.bipush 40, 2) := by decide +kernel
theorem dX10_init_244 : decode cX10_init 244 = .ok (.newarray .int, 2) := by decide +kernel
theorem dX10_init_246 : decode cX10_init 246 = .ok (.putfield 92, 3) := by decide +kernel
theorem dX10_init_249 : decode cX10_init 249 = .ok (.aload_n 0, 1) := by decide +kernel
theorem dX10_init_250 : decode cX10_init 250 = .ok (.bipush 40, 2) := by decide +kernel
theorem dX10_init_252 : decode cX10_init 252 = .ok (.newarray .int, 2) := by decide +kernel
theorem dX10_init_254 : decode cX10_init 254 = .ok (.putfield 95, 3) := by decide +kernel
theorem dX10_init_257 : decode cX10_init 257 = .ok (.aload_n 0, 1) := by decide +kernel
theorem dX10_init_258 : decode cX10_init 258 = .ok (.bipush 8, 2) := by decide +kernel
theorem dX10_init_260 : decode cX10_init 260 = .ok (.newarray .int, 2) := by decide +kernel
theorem dX10_init_262 : decode cX10_init 262 = .ok (.putfield 98, 3) := by decide +kernel
theorem dX10_init_265 : decode cX10_init 265 = .ok (.aload_n 0, 1) := by decide +kernel
theorem dX10_init_266 : decode cX10_init 266 = .ok (.bipush 8, 2) := by decide +kernel
theorem dX10_init_268 : decode cX10_init 268 = .ok (.newarray .int, 2) := by decide +kernel
theorem dX10_init_270 : decode cX10_init 270 = .ok (.putfield 101, 3) := by decide +kernel
theorem dX10_init_273 : decode cX10_init 273 = .ok (.aload_n 0, 1) := by decide +kernel
theorem dX10_init_274 : decode cX10_init 274 = .ok (.sipush 160, 3) := by decide +kernel
theorem dX10_init_277 : decode cX10_init 277 = .ok (.newarray .int, 2) := by decide +kernel
theorem dX10_init_279 : decode cX10_init 279 = .ok (.putfield 104, 3) := by decide +kernel
theorem dX10_init_282 : decode cX10_init 282 = .ok (.aload_n 0, 1) := by decide +kernel
theorem dX10_init_283 : decode cX10_init 283 = .ok (.sipush 160, 3) := by decide +kernel
theorem dX10_init_286 : decode cX10_init 286 = .ok (.newarray .int, 2) := by decide +kernel
theorem dX10_init_288 : decode cX10_init 288 = .ok (.putfield 107, 3) := by decide +kernel
theorem dX10_init_291 : decode cX10_init 291 = .ok (.aload_n 0, 1) := by decide +kernel
theorem dX10_init_292 : decode cX10_init 292 = .ok (.bipush 39, 2) := by decide +kernel
theorem dX10_init_294 : decode cX10_init 294 = .ok (.newarray .int, 2) := by decide +kernel
theorem dX10_init_296 : decode cX10_init 296 = .ok (.dup, 1) := by decide +kernel
theorem dX10_init_297 : decode cX10_init 297 = .ok (.iconst 0, 1) := by decide +kernel
theorem dX10_init_298 : decode cX10_init 298 = .ok (.bipush 116, 2) := by decide +kernel
theorem dX10_init_300 : decode cX10_init 300 = .ok (.iastore, 1) := by decide +kernel
theorem dX10_init_301 : decode cX10_init 301 = .ok (.dup, 1) := by decide +kernel
theorem dX10_init_302 : decode cX10_init 302 = .ok (.iconst 1, 1) := by decide +kernel
theorem dX10_init_303 : decode cX10_init 303 = .ok (.bipush 111, 2) := by decide +kernel
theorem dX10_init_305 : decode cX10_init 305 = .ok (.iastore, 1) := by decide +kernel
theorem dX10_init_306 : decode cX10_init 306 = .ok (.dup, 1) := by decide +kernel
theorem dX10_init_307 : decode cX10_init 307 = .ok (.iconst 2, 1) := by decide +kernel
theorem dX10_init_308 : decode cX10_init 308 = .ok (.bipush 110, 2) := by decide +kernel
theorem dX10_init_310 : decode cX10_init 310 = .ok (.iastore, 1) := by decide +kernel
theorem dX10_init_311 : decode cX10_init 311 = .ok (.dup, 1) := by decide +kernel
theorem dX10_init_312 : decode cX10_init 312 = .ok (.iconst 3, 1) := by decide +kernel
theorem dX10_init_313 : decode cX10_init 313 = .ok (.bipush 103, 2) := by decide +kernel
theorem dX10_init_315 : decode cX10_init 315 = .ok (.iastore, 1) := by decide +kernel
theorem dX10_init_316 : decode cX10_init 316 = .ok (.dup, 1) := by decide +kernel
theorem dX10_init_317 : decode cX10_init 317 = .ok (.iconst 4, 1) := by decide +kernel
theorem dX10_init_318 : decode cX10_init 318 = .ok (.bipush 117, 2) := by decide +kernel
theorem dX10_init_320 : decode cX10_init 320 = .ok (.iastore, 1) := by decide +kernel
theorem dX10_init_321 : decode cX10_init 321 = .ok (.dup, 1) := by decide +kernel
theorem dX10_init_322 : decode cX10_init 322 = .ok (.iconst 5, 1) := by decide +kernel
theorem dX10_init_323 : decode cX10_init 323 = .ok (.bipush 101, 2) := by decide +kernel
theorem dX10_init_325 : decode cX10_init 325 = .ok (.iastore, 1) := by decide +kernel
theorem dX10_init_326 : decode cX10_init 326 = .ok (.dup, 1) := by decide +kernel
theorem dX10_init_327 : decode cX10_init 327 = .ok (.bipush 6, 2) := by decide +kernel
theorem dX10_init_329 : decode cX10_init 329 = .ok (.bipush 115, 2) := by decide +kernel
theorem dX10_init_331 : decode cX10_init 331 = .ok (.iastore, 1) := by decide +kernel
theorem dX10_init_332 : decode cX10_init 332 = .ok (.dup, 1) := by decide +kernel
theorem dX10_init_333 : decode cX10_init 333 = .ok (.bipush 7, 2) := by decide +kernel
theorem dX10_init_335 : decode cX10_init 335 = .ok (.bipush 32, 2) := by decide +kernel
theorem dX10_init_337 : decode cX10_init 337 = .ok (.iastore, 1) := by decide +kernel
theorem dX10_init_338 : decode cX10_init 338 = .ok (.dup, 1) := by decide +kernel
theorem dX10_init_339 : decode cX10_init 339 = .ok (.bipush 8, 2) := by decide +kernel
theorem dX10_init_341 : decode cX10_init 341 = .ok (.bipush 119, 2) := by decide +kernel
theorem dX10_init_343 : decode cX10_init 343 = .ok (.iastore, 1) := by decide +kernel
theorem dX10_init_344 : decode cX10_init 344 = .ok (.dup, 1) := by decide +kernel
theorem dX10_init_345 : decode cX10_init 345 = .ok (.bipush 9, 2) := by decide +kernel
theorem dX10_init_347 : decode cX10_init 347 = .ok (.bipush 105, 2) := by decide +kernel
theorem dX10_init_349 : decode cX10_init 349 = .ok (.iastore, 1) := by decide +kernel
theorem dX10_init_350 : decode cX10_init 350 = .ok (.dup, 1) := by decide +kernel
theorem dX10_init_351 : decode cX10_init 351 = .ok (.bipush 10, 2) := by decide +kernel
theorem dX10_init_353 : decode cX10_init 353 = .ok (.bipush 100, 2) := by decide +kernel
theorem dX10_init_355 : decode cX10_init 355 = .ok (.iastore, 1) := by decide +kernel
theorem dX10_init_356 : decode cX10_init 356 = .ok (.dup, 1) := by decide +kernel
theorem dX10_init_357 : decode cX10_init 357 = .ok (.bipush 11, 2) := by decide +kernel
theorem dX10_init_359 : decode cX10_init 359 = .ok (.bipush 116, 2) := by decide +kernel
theorem dX10_init_361 : decode cX10_init 361 = .ok (.iastore, 1) := by decide +kernel
theorem dX10_init_362 : decode cX10_init 362 = .ok (.dup, 1) := by decide +kernel
theorem dX10_init_363 : decode cX10_init 363 = .ok (.bipush 12, 2) := by decide +kernel
theorem dX10_init_365 : decode cX10_init 365 = .ok (.bipush 104, 2) := by decide +kernel
theorem dX10_init_367 : decode cX10_init 367 = .ok (.iastore, 1) := by decide +kernel
theorem dX10_init_368 : decode cX10_init 368 = .ok (.dup, 1) := by decide +kernel
theorem dX10_init_369 : decode cX10_init 369 = .ok (.bipush 13, 2) := by decide +kernel
theorem dX10_init_371 : decode cX10_init 371 = .ok (.bipush 32, 2) := by decide +kernel
theorem dX10_init_373 : decode cX10_init 373 = .ok (.iastore, 1) := by decide +kernel
theorem dX10_init_374 : decode cX10_init 374 = .ok (.dup, 1) := by decide +kernel
theorem dX10_init_375 : decode cX10_init 375 = .ok (.bipush 14, 2) := by decide +kernel
theorem dX10_init_377 : decode cX10_init 377 = .ok (.bipush 115, 2) := by decide +kernel
theorem dX10_init_379 : decode cX10_init 379 = .ok (.iastore, 1) := by decide +kernel
theorem dX10_init_380 : decode cX10_init 380 = .ok (.dup, 1) := by decide +kernel
theorem dX10_init_381 : decode cX10_init 381 = .ok (.bipush 15, 2) := by decide +kernel
theorem dX10_init_383 : decode cX10_init 383 = .ok (.bipush 112, 2) := by decide +kernel
theorem dX10_init_385 : decode cX10_init 385 = .ok (.iastore, 1) := by decide +kernel
theorem dX10_init_386 : decode cX10_init 386 = .ok (.dup, 1) := by decide +kernel
theorem dX10_init_387 : decode cX10_init 387 = .ok (.bipush 16, 2) := by decide +kernel
theorem dX10_init_389 : decode cX10_init 389 = .ok (.bipush 101, 2) := by decide +kernel
theorem dX10_init_391 : decode cX10_init 391 = .ok (.iastore, 1) := by decide +kernel
theorem dX10_init_392 : decode cX10_init 392 = .ok (.dup, 1) := by decide +kernel
theorem dX10_init_393 : decode cX10_init 393 = .ok (.bipush 17, 2) := by decide +kernel
theorem dX10_init_395 : decode cX10_init 395 = .ok (.bipush 101, 2) := by decide +kernel
theorem dX10_init_397 : decode cX10_init 397 = .ok (.iastore, 1) := by decide +kernel
theorem dX10_init_398 : decode cX10_init 398 = .ok (.dup, 1) := by decide +kernel
theorem dX10_init_399 : decode cX10_init 399 = .ok (.bipush 18, 2) := by decide +kernel
theorem dX10_init_401 : decode cX10_init 401 = .ok (.bipush 100, 2) := by decide +kernel
theorem dX10_init_403 : decode cX10_init 403 = .ok (.iastore, 1) := by decide +kernel
theorem dX10_init_404 : decode cX10_init 404 = .ok (.dup, 1) := by decide +kernel
theorem dX10_init_405 : decode cX10_init 405 = .ok (.bipush 19, 2) := by decide +kernel
theorem dX10_init_407 : decode cX10_init 407 = .ok (.bipush 32, 2) := by decide +kernel
theorem dX10_init_409 : decode cX10_init 409 = .ok (.iastore, 1) := by decide +kernel
theorem dX10_init_410 : decode cX10_init 410 = .ok (.dup, 1) := by decide +kernel
theorem dX10_init_411 : decode cX10_init 411 = .ok (.bipush 20, 2) := by decide +kernel
theorem dX10_init_413 : decode cX10_init 413 = .ok (.bipush 98, 2) := by decide +kernel
theorem dX10_init_415 : decode cX10_init 415 = .ok (.iastore, 1) := by decide +kernel
theorem dX10_init_416 : decode cX10_init 416 = .ok (.dup, 1) := by decide +kernel
theorem dX10_init_417 : decode cX10_init 417 = .ok (.bipush 21, 2) := by decide +kernel
theorem dX10_init_419 : decode cX10_init 419 = .ok (.bipush 101, 2) := by decide +kernel
theorem dX10_init_421 : decode cX10_init 421 = .ok (.iastore, 1) := by decide +kernel
theorem dX10_init_422 : decode cX10_init 422 = .ok (.dup, 1) := by decide +kernel
theorem dX10_init_423 : decode cX10_init 423 = .ok (.bipush 22, 2) := by decide +kernel
theorem dX10_init_425 : decode cX10_init 425 = .ok (.bipush 97, 2) := by decide +kernel
theorem dX10_init_427 : decode cX10_init 427 = .ok (.iastore, 1) := by decide +kernel
theorem dX10_init_428 : decode cX10_init 428 = .ok (.dup, 1) := by decide +kernel
theorem dX10_init_429 : decode cX10_init 429 = .ok (.bipush 23, 2) := by decide +kernel
theorem dX10_init_431 : decode cX10_init 431 = .ok (.bipush 116, 2) := by decide +kernel
theorem dX10_init_433 : decode cX10_init 433 = .ok (.iastore, 1) := by decide +kernel
theorem dX10_init_434 : decode cX10_init 434 = .ok (.dup, 1) := by decide +kernel
theorem dX10_init_435 : decode cX10_init 435 = .ok (.bipush 24, 2) := by decide +kernel
theorem dX10_init_437 : decode cX10_init 437 = .ok (.bipush 115, 2) := by decide +kernel
theorem dX10_init_439 : decode cX10_init 439 = .ok (.iastore, 1) := by decide +kernel
theorem dX10_init_440 : decode cX10_init 440 = .ok (.dup, 1) := by decide +kernel
theorem dX10_init_441 : decode cX10_init 441 = .ok (.bipush 25, 2) := by decide +kernel
theorem dX10_init_443 : decode cX10_init 443 = .ok (.bipush 32, 2) := by decide +kernel
theorem dX10_init_445 : decode cX10_init 445 = .ok (.iastore, 1) := by decide +kernel
theorem dX10_init_446 : decode cX10_init 446 = .ok (.dup, 1) := by decide +kernel
theorem dX10_init_447 : decode cX10_init 447 = .ok (.bipush 26, 2) := by decide +kernel
theorem dX10_init_449 : decode cX10_init 449 = .ok (.bipush 97, 2) := by decide +kernel
theorem dX10_init_451 : decode cX10_init 451 = .ok (.iastore, 1) := by decide +kernel
theorem dX10_init_452 : decode cX10_init 452 = .ok (.dup, 1) := by decide +kernel
theorem dX10_init_453 : decode cX10_init 453 = .ok (.bipush 27, 2) := by decide +kernel
theorem dX10_init_455 : decode cX10_init 455 = .ok (.bipush 116, 2) := by decide +kernel
theorem dX10_init_457 : decode cX10_init 457 = .ok (.iastore, 1) := by decide +kernel
theorem dX10_init_458 : decode cX10_init 458 = .ok (.dup, 1) := by decide +kernel
theorem dX10_init_459 : decode cX10_init 459 = .ok (.bipush 28, 2) := by decide +kernel
theorem dX10_init_461 : decode cX10_init 461 = .ok (.bipush 32, 2) := by decide +kernel
theorem dX10_init_463 : decode cX10_init 463 = .ok (.iastore, 1) := by decide +kernel
theorem dX10_init_464 : decode cX10_init 464 = .ok (.dup, 1) := by decide +kernel
theorem dX10_init_465 : decode cX10_init 465 = .ok (.bipush 29, 2) := by decide +kernel
theorem dX10_init_467 : decode cX10_init 467 = .ok (.bipush 98, 2) := by decide +kernel
theorem dX10_init_469 : decode cX10_init 469 = .ok (.iastore, 1) := by decide +kernel
theorem dX10_init_470 : decode cX10_init 470 = .ok (.dup, 1) := by decide +kernel
theorem dX10_init_471 : decode cX10_init 471 = .ok (.bipush 30, 2) := by decide +kernel
theorem dX10_init_473 : decode cX10_init 473 = .ok (.bipush 108, 2) := by decide +kernel
theorem dX10_init_475 : decode cX10_init 475 = .ok (.iastore, 1) := by decide +kernel
theorem dX10_init_476 : decode cX10_init 476 = .ok (.dup, 1) := by decide +kernel
theorem dX10_init_477 : decode cX10_init 477 = .ok (.bipush 31, 2) := by decide +kernel
theorem dX10_init_479 : decode cX10_init 479 = .ok (.bipush 97, 2) := by decide +kernel
theorem dX10_init_481 : decode cX10_init 481 = .ok (.iastore, 1) := by decide +kernel
theorem dX10_init_482 : decode cX10_init 482 = .ok (.dup, 1) := by decide +kernel
theorem dX10_init_483 : decode cX10_init 483 = .ok (.bipush 32, 2) := by decide +kernel
theorem dX10_init_485 : decode cX10_init 485 = .ok (.bipush 110, 2) := by decide +kernel
theorem dX10_init_487 : decode cX10_init 487 = .ok (.iastore, 1) := by decide +kernel
theorem dX10_init_488 : decode cX10_init 488 = .ok (.dup, 1) := by decide +kernel
theorem dX10_init_489 : decode cX10_init 489 = .ok (.bipush 33, 2) := by decide +kernel
theorem dX10_init_491 : decode cX10_init 491 = .ok (.bipush 107, 2) := by decide +kernel
theorem dX10_init_493 : decode cX10_init 493 = .ok (.iastore, 1) := by decide +kernel
theorem dX10_init_494 : decode cX10_init 494 = .ok (.dup, 1) := by decide +kernel
theorem dX10_init_495 : decode cX10_init 495 = .ok (.bipush 34, 2) := by decide +kernel
theorem dX10_init_497 : decode cX10_init 497 = .ok (.bipush 32, 2) := by decide +kernel
theorem dX10_init_499 : decode cX10_init 499 = .ok (.iastore, 1) := by decide +kernel
theorem dX10_init_500 : decode cX10_init 500 = .ok (.dup, 1) := by decide +kernel
theorem dX10_init_501 : decode cX10_init 501 = .ok (.bipush 35, 2) := by decide +kernel
theorem dX10_init_503 : decode cX10_init 503 = .ok (.bipush 99, 2) := by decide +kernel
theorem dX10_init_505 : decode cX10_init 505 = .ok (.iastore, 1) := by decide +kernel
theorem dX10_init_506 : decode cX10_init 506 = .ok (.dup, 1) := by decide +kernel
theorem dX10_init_507 : decode cX10_init 507 = .ok (.bipush 36, 2) := by decide +kernel
theorem dX10_init_509 : decode cX10_init 509 = .ok (.bipush 117, 2) := by decide +kernel
theorem dX10_init_511 : decode cX10_init 511 = .ok (.iastore, 1) := by decide +kernel
theorem dX10_init_512 : decode cX10_init 512 = .ok (.dup, 1) := by decide +kernel
theorem dX10_init_513 : decode cX10_init 513 = .ok (.bipush 37, 2) := by decide +kernel
theorem dX10_init_515 : decode cX10_init 515 = .ok (.bipush 116, 2) := by decide +kernel
theorem dX10_init_517 : decode cX10_init 517 = .ok (.iastore, 1) := by decide +kernel
theorem dX10_init_518 : decode cX10_init 518 = .ok (.dup, 1) := by decide +kernel
theorem dX10_init_519 : decode cX10_init 519 = .ok (.bipush 38, 2) := by decide +kernel
theorem dX10_init_521 : decode cX10_init 521 = .ok (.bipush 32, 2) := by decide +kernel
theorem dX10_init_523 : decode cX10_init 523 = .ok (.iastore, 1) := by decide +kernel
theorem dX10_init_524 : decode cX10_init 524 = .ok (.putfield 110, 3) := by decide +kernel
theorem dX10_init_527 : decode cX10_init 527 = .ok (.return_, 1) := by decide +kernel
theorem dX10_thrown_0 : decode cX10_thrown 0 = .ok (.aload_n 0, 1) := by decide +kernel
theorem dX10_thrown_1 : decode cX10_thrown 1 = .ok (.getfield 113, 3) := by decide +kernel
theorem dX10_thrown_4 : decode cX10_thrown 4 = .ok (.ireturn, 1) := by decide +kernel
theorem dX10_feed_0 : decode cX10_feed 0 = .ok (.aload_n 0, 1) := by decide +kernel
theorem dX10_feed_1 : decode cX10_feed 1 = .ok (.iconst 0, 1) := by decide +kernel
theorem dX10_feed_2 : decode cX10_feed 2 = .ok (.putfield 113, 3) := by decide +kernel
theorem dX10_feed_5 : decode cX10_feed 5 = .ok (.aload_n 0, 1) := by decide +kernel
theorem dX10_feed_6 : decode cX10_feed 6 = .ok (.getfield 116, 3) := by decide +kernel
