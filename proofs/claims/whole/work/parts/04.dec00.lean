theorem dX0_init_0 : decode cX0_init 0 = .ok (.aload_n 0, 1) := by decide +kernel
theorem dX0_init_1 : decode cX0_init 1 = .ok (.invokespecial 3, 3) := by decide +kernel
theorem dX0_init_4 : decode cX0_init 4 = .ok (.aload_n 0, 1) := by decide +kernel
theorem dX0_init_5 : decode cX0_init 5 = .ok (.bipush 10, 2) := by decide +kernel
theorem dX0_init_7 : decode cX0_init 7 = .ok (.newarray .int, 2) := by decide +kernel
theorem dX0_init_9 : decode cX0_init 9 = .ok (.putfield 9, 3) := by decide +kernel
theorem dX0_init_12 : decode cX0_init 12 = .ok (.aload_n 0, 1) := by decide +kernel
theorem dX0_init_13 : decode cX0_init 13 = .ok (.bipush 10, 2) := by decide +kernel
theorem dX0_init_15 : decode cX0_init 15 = .ok (.newarray .int, 2) := by decide +kernel
theorem dX0_init_17 : decode cX0_init 17 = .ok (.putfield 15, 3) := by decide +kernel
theorem dX0_init_20 : decode cX0_init 20 = .ok (.aload_n 0, 1) := by decide +kernel
theorem dX0_init_21 : decode cX0_init 21 = .ok (.bipush 10, 2) := by decide +kernel
theorem dX0_init_23 : decode cX0_init 23 = .ok (.newarray .int, 2) := by decide +kernel
theorem dX0_init_25 : decode cX0_init 25 = .ok (.putfield 18, 3) := by decide +kernel
theorem dX0_init_28 : decode cX0_init 28 = .ok (.return_, 1) := by decide +kernel
theorem dX0_open_0 : decode cX0_open 0 = .ok (.aload_n 0, 1) := by decide +kernel
theorem dX0_open_1 : decode cX0_open 1 = .ok (.getfield 21, 3) := by decide +kernel
theorem dX0_open_4 : decode cX0_open 4 = .ok (.bipush 10, 2) := by decide +kernel
theorem dX0_open_6 : decode cX0_open 6 = .ok (.if_icmp .ge 43, 3) := by decide +kernel
theorem dX0_open_9 : decode cX0_open 9 = .ok (.aload_n 0, 1) := by decide +kernel
theorem dX0_open_10 : decode cX0_open 10 = .ok (.getfield 9, 3) := by decide +kernel
theorem dX0_open_13 : decode cX0_open 13 = .ok (.aload_n 0, 1) := by decide +kernel
theorem dX0_open_14 : decode cX0_open 14 = .ok (.getfield 21, 3) := by decide +kernel
theorem dX0_open_17 : decode cX0_open 17 = .ok (.iload_n 1, 1) := by decide +kernel
theorem dX0_open_18 : decode cX0_open 18 = .ok (.iastore, 1) := by decide +kernel
theorem dX0_open_19 : decode cX0_open 19 = .ok (.aload_n 0, 1) := by decide +kernel
theorem dX0_open_20 : decode cX0_open 20 = .ok (.getfield 15, 3) := by decide +kernel
theorem dX0_open_23 : decode cX0_open 23 = .ok (.aload_n 0, 1) := by decide +kernel
theorem dX0_open_24 : decode cX0_open 24 = .ok (.getfield 21, 3) := by decide +kernel
theorem dX0_open_27 : decode cX0_open 27 = .ok (.iload_n 2, 1) := by decide +kernel
theorem dX0_open_28 : decode cX0_open 28 = .ok (.iastore, 1) := by decide +kernel
theorem dX0_open_29 : decode cX0_open 29 = .ok (.aload_n 0, 1) := by decide +kernel
theorem dX0_open_30 : decode cX0_open 30 = .ok (.getfield 18, 3) := by decide +kernel
theorem dX0_open_33 : decode cX0_open 33 = .ok (.aload_n 0, 1) := by decide +kernel
theorem dX0_open_34 : decode cX0_open 34 = .ok (.getfield 21, 3) := by decide +kernel
theorem dX0_open_37 : decode cX0_open 37 = .ok (.iload_n 3, 1) := by decide +kernel
theorem dX0_open_38 : decode cX0_open 38 = .ok (.iastore, 1) := by decide +kernel
theorem dX0_open_39 : decode cX0_open 39 = .ok (.aload_n 0, 1) := by decide +kernel
theorem dX0_open_40 : decode cX0_open 40 = .ok (.dup, 1) := by decide +kernel
theorem dX0_open_41 : decode cX0_open 41 = .ok (.getfield 21, 3) := by decide +kernel
theorem dX0_open_44 : decode cX0_open 44 = .ok (.iconst 1, 1) := by decide +kernel
theorem dX0_open_45 : decode cX0_open 45 = .ok (.iadd, 1) := by decide +kernel
theorem dX0_open_46 : decode cX0_open 46 = .ok (.putfield 21, 3) := by decide +kernel
theorem dX0_open_49 : decode cX0_open 49 = .ok (.return_, 1) := by decide +kernel
theorem dX0_hoursOf_0 : decode cX0_hoursOf 0 = .ok (.iconst 0, 1) := by decide +kernel
theorem dX0_hoursOf_1 : decode cX0_hoursOf 1 = .ok (.istore_n 2, 1) := by decide +kernel
theorem dX0_hoursOf_2 : decode cX0_hoursOf 2 = .ok (.iconst 0, 1) := by decide +kernel
theorem dX0_hoursOf_3 : decode cX0_hoursOf 3 = .ok (.istore_n 3, 1) := by decide +kernel
theorem dX0_hoursOf_4 : decode cX0_hoursOf 4 = .ok (.iload_n 3, 1) := by decide +kernel
theorem dX0_hoursOf_5 : decode cX0_hoursOf 5 = .ok (.aload_n 0, 1) := by decide +kernel
theorem dX0_hoursOf_6 : decode cX0_hoursOf 6 = .ok (.getfield 21, 3) := by decide +kernel
theorem dX0_hoursOf_9 : decode cX0_hoursOf 9 = .ok (.if_icmp .ge 22, 3) := by decide +kernel
theorem dX0_hoursOf_12 : decode cX0_hoursOf 12 = .ok (.aload_n 0, 1) := by decide +kernel
theorem dX0_hoursOf_13 : decode cX0_hoursOf 13 = .ok (.getfield 9, 3) := by decide +kernel
theorem dX0_hoursOf_16 : decode cX0_hoursOf 16 = .ok (.iload_n 3, 1) := by decide +kernel
theorem dX0_hoursOf_17 : decode cX0_hoursOf 17 = .ok (.iaload, 1) := by decide +kernel
theorem dX0_hoursOf_18 : decode cX0_hoursOf 18 = .ok (.iload_n 1, 1) := by decide +kernel
theorem dX0_hoursOf_19 : decode cX0_hoursOf 19 = .ok (.if_icmp .ne 6, 3) := by decide +kernel
theorem dX0_hoursOf_22 : decode cX0_hoursOf 22 = .ok (.iinc 2 1, 3) := by decide +kernel
theorem dX0_hoursOf_25 : decode cX0_hoursOf 25 = .ok (.iinc 3 1, 3) := by decide +kernel
theorem dX0_hoursOf_28 : decode cX0_hoursOf 28 = .ok (.goto (-24), 3) := by decide +kernel
theorem dX0_hoursOf_31 : decode cX0_hoursOf 31 = .ok (.iload_n 2, 1) := by decide +kernel
theorem dX0_hoursOf_32 : decode cX0_hoursOf 32 = .ok (.ireturn, 1) := by decide +kernel
theorem dX0_have_0 : decode cX0_have 0 = .ok (.iconst 0, 1) := by decide +kernel
theorem dX0_have_1 : decode cX0_have 1 = .ok (.istore_n 3, 1) := by decide +kernel
theorem dX0_have_2 : decode cX0_have 2 = .ok (.iload_n 3, 1) := by decide +kernel
theorem dX0_have_3 : decode cX0_have 3 = .ok (.aload_n 0, 1) := by decide +kernel
theorem dX0_have_4 : decode cX0_have 4 = .ok (.getfield 21, 3) := by decide +kernel
theorem dX0_have_7 : decode cX0_have 7 = .ok (.if_icmp .ge 41, 3) := by decide +kernel
theorem dX0_have_10 : decode cX0_have 10 = .ok (.aload_n 0, 1) := by decide +kernel
theorem dX0_have_11 : decode cX0_have 11 = .ok (.getfield 9, 3) := by decide +kernel
theorem dX0_have_14 : decode cX0_have 14 = .ok (.iload_n 3, 1) := by decide +kernel
theorem dX0_have_15 : decode cX0_have 15 = .ok (.iaload, 1) := by decide +kernel
theorem dX0_have_16 : decode cX0_have 16 = .ok (.iload_n 1, 1) := by decide +kernel
theorem dX0_have_17 : decode cX0_have 17 = .ok (.if_icmp .ne 25, 3) := by decide +kernel
theorem dX0_have_20 : decode cX0_have 20 = .ok (.aload_n 0, 1) := by decide +kernel
theorem dX0_have_21 : decode cX0_have 21 = .ok (.getfield 15, 3) := by decide +kernel
theorem dX0_have_24 : decode cX0_have 24 = .ok (.iload_n 3, 1) := by decide +kernel
theorem dX0_have_25 : decode cX0_have 25 = .ok (.iaload, 1) := by decide +kernel
theorem dX0_have_26 : decode cX0_have 26 = .ok (.iload_n 2, 1) := by decide +kernel
theorem dX0_have_27 : decode cX0_have 27 = .ok (.if_icmp .gt 15, 3) := by decide +kernel
theorem dX0_have_30 : decode cX0_have 30 = .ok (.iload_n 2, 1) := by decide +kernel
theorem dX0_have_31 : decode cX0_have 31 = .ok (.aload_n 0, 1) := by decide +kernel
theorem dX0_have_32 : decode cX0_have 32 = .ok (.getfield 18, 3) := by decide +kernel
theorem dX0_have_35 : decode cX0_have 35 = .ok (.iload_n 3, 1) := by decide +kernel
theorem dX0_have_36 : decode cX0_have 36 = .ok (.iaload, 1) := by decide +kernel
theorem dX0_have_37 : decode cX0_have 37 = .ok (.if_icmp .gt 5, 3) := by decide +kernel
theorem dX0_have_40 : decode cX0_have 40 = .ok (.iconst 1, 1) := by decide +kernel
theorem dX0_have_41 : decode cX0_have 41 = .ok (.ireturn, 1) := by decide +kernel
theorem dX0_have_42 : decode cX0_have 42 = .ok (.iinc 3 1, 3) := by decide +kernel
theorem dX0_have_45 : decode cX0_have 45 = .ok (.goto (-43), 3) := by decide +kernel
theorem dX0_have_48 : decode cX0_have 48 = .ok (.iconst 0, 1) := by decide +kernel
theorem dX0_have_49 : decode cX0_have 49 = .ok (.ireturn, 1) := by decide +kernel
theorem dX1_init_0 : decode cX1_init 0 = .ok (.aload_n 0, 1) := by decide +kernel
theorem dX1_init_1 : decode cX1_init 1 = .ok (.invokespecial 3, 3) := by decide +kernel
theorem dX1_init_4 : decode cX1_init 4 = .ok (.aload_n 0, 1) := by decide +kernel
theorem dX1_init_5 : decode cX1_init 5 = .ok (.bipush 10, 2) := by decide +kernel
theorem dX1_init_7 : decode cX1_init 7 = .ok (.newarray .int, 2) := by decide +kernel
theorem dX1_init_9 : decode cX1_init 9 = .ok (.putfield 9, 3) := by decide +kernel
theorem dX1_init_12 : decode cX1_init 12 = .ok (.aload_n 0, 1) := by decide +kernel
theorem dX1_init_13 : decode cX1_init 13 = .ok (.iconst 0, 1) := by decide +kernel
theorem dX1_init_14 : decode cX1_init 14 = .ok (.putfield 15, 3) := by decide +kernel
theorem dX1_init_17 : decode cX1_init 17 = .ok (.return_, 1) := by decide +kernel
theorem dX1_savingWith_0 : decode cX1_savingWith 0 = .ok (.iconst 0, 1) := by decide +kernel
theorem dX1_savingWith_1 : decode cX1_savingWith 1 = .ok (.istore_n 2, 1) := by decide +kernel
theorem dX1_savingWith_2 : decode cX1_savingWith 2 = .ok (.aload_n 0, 1) := by decide +kernel
theorem dX1_savingWith_3 : decode cX1_savingWith 3 = .ok (.getfield 19, 3) := by decide +kernel
theorem dX1_savingWith_6 : decode cX1_savingWith 6 = .ok (.aload_n 1, 1) := by decide +kernel
theorem dX1_savingWith_7 : decode cX1_savingWith 7 = .ok (.getfield 19, 3) := by decide +kernel
theorem dX1_savingWith_10 : decode cX1_savingWith 10 = .ok (.if_icmp .ne 9, 3) := by decide +kernel
theorem dX1_savingWith_13 : decode cX1_savingWith 13 = .ok (.bipush 10, 2) := by decide +kernel
theorem dX1_savingWith_15 : decode cX1_savingWith 15 = .ok (.istore_n 2, 1) := by decide +kernel
theorem dX1_savingWith_16 : decode cX1_savingWith 16 = .ok (.goto 21, 3) := by decide +kernel
theorem dX1_savingWith_19 : decode cX1_savingWith 19 = .ok (.aload_n 0, 1) := by decide +kernel
theorem dX1_savingWith_20 : decode cX1_savingWith 20 = .ok (.getfield 19, 3) := by decide +kernel
theorem dX1_savingWith_23 : decode cX1_savingWith 23 = .ok (.aload_n 1, 1) := by decide +kernel
theorem dX1_savingWith_24 : decode cX1_savingWith 24 = .ok (.getfield 19, 3) := by decide +kernel
theorem dX1_savingWith_27 : decode cX1_savingWith 27 = .ok (.isub, 1) := by decide +kernel
theorem dX1_savingWith_28 : decode cX1_savingWith 28 = .ok (.invokestatic 22, 3) := by decide +kernel
theorem dX1_savingWith_31 : decode cX1_savingWith 31 = .ok (.iconst 1, 1) := by decide +kernel
theorem dX1_savingWith_32 : decode cX1_savingWith 32 = .ok (.if_icmp .ne 5, 3) := by decide +kernel
theorem dX1_savingWith_35 : decode cX1_savingWith 35 = .ok (.iconst 5, 1) := by decide +kernel
theorem dX1_savingWith_36 : decode cX1_savingWith 36 = .ok (.istore_n 2, 1) := by decide +kernel
theorem dX1_savingWith_37 : decode cX1_savingWith 37 = .ok (.iconst 0, 1) := by decide +kernel
theorem dX1_savingWith_38 : decode cX1_savingWith 38 = .ok (.istore_n 3, 1) := by decide +kernel
theorem dX1_savingWith_39 : decode cX1_savingWith 39 = .ok (.iload_n 3, 1) := by decide +kernel
theorem dX1_savingWith_40 : decode cX1_savingWith 40 = .ok (.bipush 10, 2) := by decide +kernel
theorem dX1_savingWith_42 : decode cX1_savingWith 42 = .ok (.if_icmp .ge 30, 3) := by decide +kernel
theorem dX1_savingWith_45 : decode cX1_savingWith 45 = .ok (.aload_n 0, 1) := by decide +kernel
theorem dX1_savingWith_46 : decode cX1_savingWith 46 = .ok (.getfield 9, 3) := by decide +kernel
theorem dX1_savingWith_49 : decode cX1_savingWith 49 = .ok (.iload_n 3, 1) := by decide +kernel
theorem dX1_savingWith_50 : decode cX1_savingWith 50 = .ok (.iaload, 1) := by decide +kernel
theorem dX1_savingWith_51 : decode cX1_savingWith 51 = .ok (.ifCond .le 15, 3) := by decide +kernel
theorem dX1_savingWith_54 : decode cX1_savingWith 54 = .ok (.aload_n 1, 1) := by decide +kernel
theorem dX1_savingWith_55 : decode cX1_savingWith 55 = .ok (.getfield 9, 3) := by decide +kernel
theorem dX1_savingWith_58 : decode cX1_savingWith 58 = .ok (.iload_n 3, 1) := by decide +kernel
theorem dX1_savingWith_59 : decode cX1_savingWith 59 = .ok (.iaload, 1) := by decide +kernel
theorem dX1_savingWith_60 : decode cX1_savingWith 60 = .ok (.ifCond .le 6, 3) := by decide +kernel
theorem dX1_savingWith_63 : decode cX1_savingWith 63 = .ok (.iinc 2 3, 3) := by decide +kernel
theorem dX1_savingWith_66 : decode cX1_savingWith 66 = .ok (.iinc 3 1, 3) := by decide +kernel
theorem dX1_savingWith_69 : decode cX1_savingWith 69 = .ok (.goto (-30), 3) := by decide +kernel
theorem dX1_savingWith_72 : decode cX1_savingWith 72 = .ok (.iload_n 2, 1) := by decide +kernel
theorem dX1_savingWith_73 : decode cX1_savingWith 73 = .ok (.aload_n 0, 1) := by decide +kernel
theorem dX1_savingWith_74 : decode cX1_savingWith 74 = .ok (.getfield 28, 3) := by decide +kernel
theorem dX1_savingWith_77 : decode cX1_savingWith 77 = .ok (.aload_n 1, 1) := by decide +kernel
theorem dX1_savingWith_78 : decode cX1_savingWith 78 = .ok (.getfield 28, 3) := by decide +kernel
theorem dX1_savingWith_81 : decode cX1_savingWith 81 = .ok (.invokestatic 31, 3) := by decide +kernel
theorem dX1_savingWith_84 : decode cX1_savingWith 84 = .ok (.invokestatic 31, 3) := by decide +kernel
theorem dX1_savingWith_87 : decode cX1_savingWith 87 = .ok (.ireturn, 1) := by decide +kernel
theorem dX2_init_0 : decode cX2_init 0 = .ok (.aload_n 0, 1) := by decide +kernel
theorem dX2_init_1 : decode cX2_init 1 = .ok (.invokespecial 3, 3) := by decide +kernel
theorem dX2_init_4 : decode cX2_init 4 = .ok (.aload_n 0, 1) := by decide +kernel
theorem dX2_init_5 : decode cX2_init 5 = .ok (.bipush 16, 2) := by decide +kernel
theorem dX2_init_7 : decode cX2_init 7 = .ok (.newarray .int, 2) := by decide +kernel
theorem dX2_init_9 : decode cX2_init 9 = .ok (.putfield 9, 3) := by decide +kernel
theorem dX2_init_12 : decode cX2_init 12 = .ok (.return_, 1) := by decide +kernel
theorem dX2_add_0 : decode cX2_add 0 = .ok (.aload_n 0, 1) := by decide +kernel
theorem dX2_add_1 : decode cX2_add 1 = .ok (.getfield 15, 3) := by decide +kernel
theorem dX2_add_4 : decode cX2_add 4 = .ok (.bipush 16, 2) := by decide +kernel
theorem dX2_add_6 : decode cX2_add 6 = .ok (.if_icmp .ge 23, 3) := by decide +kernel
theorem dX2_add_9 : decode cX2_add 9 = .ok (.aload_n 0, 1) := by decide +kernel
theorem dX2_add_10 : decode cX2_add 10 = .ok (.getfield 9, 3) := by decide +kernel
theorem dX2_add_13 : decode cX2_add 13 = .ok (.aload_n 0, 1) := by decide +kernel
theorem dX2_add_14 : decode cX2_add 14 = .ok (.getfield 15, 3) := by decide +kernel
theorem dX2_add_17 : decode cX2_add 17 = .ok (.iload_n 1, 1) := by decide +kernel
theorem dX2_add_18 : decode cX2_add 18 = .ok (.iastore, 1) := by decide +kernel
theorem dX2_add_19 : decode cX2_add 19 = .ok (.aload_n 0, 1) := by decide +kernel
theorem dX2_add_20 : decode cX2_add 20 = .ok (.dup, 1) := by decide +kernel
theorem dX2_add_21 : decode cX2_add 21 = .ok (.getfield 15, 3) := by decide +kernel
theorem dX2_add_24 : decode cX2_add 24 = .ok (.iconst 1, 1) := by decide +kernel
theorem dX2_add_25 : decode cX2_add 25 = .ok (.iadd, 1) := by decide +kernel
theorem dX2_add_26 : decode cX2_add 26 = .ok (.putfield 15, 3) := by decide +kernel
theorem dX2_add_29 : decode cX2_add 29 = .ok (.return_, 1) := by decide +kernel
theorem dX2_addAll_0 : decode cX2_addAll 0 = .ok (.iconst 0, 1) := by decide +kernel
theorem dX2_addAll_1 : decode cX2_addAll 1 = .ok (.istore_n 2, 1) := by decide +kernel
theorem dX2_addAll_2 : decode cX2_addAll 2 = .ok (.iload_n 2, 1) := by decide +kernel
theorem dX2_addAll_3 : decode cX2_addAll 3 = .ok (.aload_n 1, 1) := by decide +kernel
theorem dX2_addAll_4 : decode cX2_addAll 4 = .ok (.getfield 15, 3) := by decide +kernel
theorem dX2_addAll_7 : decode cX2_addAll 7 = .ok (.if_icmp .ge 19, 3) := by decide +kernel
theorem dX2_addAll_10 : decode cX2_addAll 10 = .ok (.aload_n 0, 1) := by decide +kernel
theorem dX2_addAll_11 : decode cX2_addAll 11 = .ok (.aload_n 1, 1) := by decide +kernel
theorem dX2_addAll_12 : decode cX2_addAll 12 = .ok (.getfield 9, 3) := by decide +kernel
theorem dX2_addAll_15 : decode cX2_addAll 15 = .ok (.iload_n 2, 1) := by decide +kernel
theorem dX2_addAll_16 : decode cX2_addAll 16 = .ok (.iaload, 1) := by decide +kernel
theorem dX2_addAll_17 : decode cX2_addAll 17 = .ok (.invokevirtual 19, 3) := by decide +kernel
theorem dX2_addAll_20 : decode cX2_addAll 20 = .ok (.iinc 2 1, 3) := by decide +kernel
theorem dX2_addAll_23 : decode cX2_addAll 23 = .ok (.goto (-21), 3) := by decide +kernel
theorem dX2_addAll_26 : decode cX2_addAll 26 = .ok (.return_, 1) := by decide +kernel
theorem dX2_remove_0 : decode cX2_remove 0 = .ok (.iconst 0, 1) := by decide +kernel
theorem dX2_remove_1 : decode cX2_remove 1 = .ok (.istore_n 2, 1) := by decide +kernel
theorem dX2_remove_2 : decode cX2_remove 2 = .ok (.iconst 0, 1) := by decide +kernel
theorem dX2_remove_3 : decode cX2_remove 3 = .ok (.istore_n 3, 1) := by decide +kernel
theorem dX2_remove_4 : decode cX2_remove 4 = .ok (.iload_n 3, 1) := by decide +kernel
theorem dX2_remove_5 : decode cX2_remove 5 = .ok (.aload_n 0, 1) := by decide +kernel
theorem dX2_remove_6 : decode cX2_remove 6 = .ok (.getfield 15, 3) := by decide +kernel
theorem dX2_remove_9 : decode cX2_remove 9 = .ok (.if_icmp .ge 34, 3) := by decide +kernel
theorem dX2_remove_12 : decode cX2_remove 12 = .ok (.aload_n 0, 1) := by decide +kernel
theorem dX2_remove_13 : decode cX2_remove 13 = .ok (.getfield 9, 3) := by decide +kernel
theorem dX2_remove_16 : decode cX2_remove 16 = .ok (.iload_n 3, 1) := by decide +kernel
theorem dX2_remove_17 : decode cX2_remove 17 = .ok (.iaload, 1) := by decide +kernel
theorem dX2_remove_18 : decode cX2_remove 18 = .ok (.iload_n 1, 1) := by decide +kernel
theorem dX2_remove_19 : decode cX2_remove 19 = .ok (.if_icmp .eq 18, 3) := by decide +kernel
theorem dX2_remove_22 : decode cX2_remove 22 = .ok (.aload_n 0, 1) := by decide +kernel
theorem dX2_remove_23 : decode cX2_remove 23 = .ok (.getfield 9, 3) := by decide +kernel
theorem dX2_remove_26 : decode cX2_remove 26 = .ok (.iload_n 2, 1) := by decide +kernel
theorem dX2_remove_27 : decode cX2_remove 27 = .ok (.aload_n 0, 1) := by decide +kernel
theorem dX2_remove_28 : decode cX2_remove 28 = .ok (.getfield 9, 3) := by decide +kernel
theorem dX2_remove_31 : decode cX2_remove 31 = .ok (.iload_n 3, 1) := by decide +kernel
theorem dX2_remove_32 : decode cX2_remove 32 = .ok (.iaload, 1) := by decide +kernel
theorem dX2_remove_33 : decode cX2_remove 33 = .ok (.iastore, 1) := by decide +kernel
theorem dX2_remove_34 : decode cX2_remove 34 = .ok (.iinc 2 1, 3) := by decide +kernel
theorem dX2_remove_37 : decode cX2_remove 37 = .ok (.iinc 3 1, 3) := by decide +kernel
theorem dX2_remove_40 : decode cX2_remove 40 = .ok (.goto (-36), 3) := by decide +kernel
theorem dX2_remove_43 : decode cX2_remove 43 = .ok (.aload_n 0, 1) := by decide +kernel
theorem dX2_remove_44 : decode cX2_remove 44 = .ok (.iload_n 2, 1) := by decide +kernel
theorem dX2_remove_45 : decode cX2_remove 45 = .ok (.putfield 15, 3) := by decide +kernel
theorem dX2_remove_48 : decode cX2_remove 48 = .ok (.return_, 1) := by decide +kernel
theorem dX2_empty_0 : decode cX2_empty 0 = .ok (.aload_n 0, 1) := by decide +kernel
theorem dX2_empty_1 : decode cX2_empty 1 = .ok (.iconst 0, 1) := by decide +kernel
theorem dX2_empty_2 : decode cX2_empty 2 = .ok (.putfield 15, 3) := by decide +kernel
theorem dX2_empty_5 : decode cX2_empty 5 = .ok (.return_, 1) := by decide +kernel
theorem dX3_init_0 : decode cX3_init 0 = .ok (.aload_n 0, 1) := by decide +kernel
theorem dX3_init_1 : decode cX3_init 1 = .ok (.invokespecial 1, 3) := by decide +kernel
theorem dX3_init_4 : decode cX3_init 4 = .ok (.aload_n 0, 1) := by decide +kernel
theorem dX3_init_5 : decode cX3_init 5 = .ok (.iconst 0, 1) := by decide +kernel
theorem dX3_init_6 : decode cX3_init 6 = .ok (.iload_n 1, 1) := by decide +kernel
theorem dX3_init_7 : decode cX3_init 7 = .ok (.ldc 9, 2) := by decide +kernel
theorem dX3_init_9 : decode cX3_init 9 = .ok (.invokestatic 10, 3) := by decide +kernel
theorem dX3_init_12 : decode cX3_init 12 = .ok (.invokestatic 16, 3) := by decide +kernel
theorem dX3_init_15 : decode cX3_init 15 = .ok (.putfield 19, 3) := by decide +kernel
theorem dX3_init_18 : decode cX3_init 18 = .ok (.aload_n 0, 1) := by decide +kernel
theorem dX3_init_19 : decode cX3_init 19 = .ok (.new 23, 3) := by decide +kernel
theorem dX3_init_22 : decode cX3_init 22 = .ok (.dup, 1) := by decide +kernel
theorem dX3_init_23 : decode cX3_init 23 = .ok (.invokespecial 25, 3) := by decide +kernel
theorem dX3_init_26 : decode cX3_init 26 = .ok (.putfield 26, 3) := by decide +kernel
theorem dX3_init_29 : decode cX3_init 29 = .ok (.aload_n 0, 1) := by decide +kernel
theorem dX3_init_30 : decode cX3_init 30 = .ok (.bipush 10, 2) := by decide +kernel
theorem dX3_init_32 : decode cX3_init 32 = .ok (.newarray .int, 2) := by decide +kernel
theorem dX3_init_34 : decode cX3_init 34 = .ok (.putfield 30, 3) := by decide +kernel
theorem dX3_init_37 : decode cX3_init 37 = .ok (.aload_n 0, 1) := by decide +kernel
theorem dX3_init_38 : decode cX3_init 38 = .ok (.bipush 16, 2) := by decide +kernel
theorem dX3_init_40 : decode cX3_init 40 = .ok (.anewarray 34, 3) := by decide +kernel
theorem dX3_init_43 : decode cX3_init 43 = .ok (.putfield 36, 3) := by decide +kernel
theorem dX3_init_46 : decode cX3_init 46 = .ok (.iconst 0, 1) := by decide +kernel
theorem dX3_init_47 : decode cX3_init 47 = .ok (.istore_n 2, 1) := by decide +kernel
theorem dX3_init_48 : decode cX3_init 48 = .ok (.iload_n 2, 1) := by decide +kernel
theorem dX3_init_49 : decode cX3_init 49 = .ok (.bipush 16, 2) := by decide +kernel
theorem dX3_init_51 : decode cX3_init 51 = .ok (.if_icmp .ge 22, 3) := by decide +kernel
theorem dX3_init_54 : decode cX3_init 54 = .ok (.aload_n 0, 1) := by decide +kernel
theorem dX3_init_55 : decode cX3_init 55 = .ok (.getfield 36, 3) := by decide +kernel
theorem dX3_init_58 : decode cX3_init 58 = .ok (.iload_n 2, 1) := by decide +kernel
theorem dX3_init_59 : decode cX3_init 59 = .ok (.new 34, 3) := by decide +kernel
theorem dX3_init_62 : decode cX3_init 62 = .ok (.dup, 1) := by decide +kernel
theorem dX3_init_63 : decode cX3_init 63 = .ok (.invokespecial 40, 3) := by decide +kernel
theorem dX3_init_66 : decode cX3_init 66 = .ok (.aastore, 1) := by decide +kernel
theorem dX3_init_67 : decode cX3_init 67 = .ok (.iinc 2 1, 3) := by decide +kernel
theorem dX3_init_70 : decode cX3_init 70 = .ok (.goto (-22), 3) := by decide +kernel
theorem dX3_init_73 : decode cX3_init 73 = .ok (.aload_n 0, 1) := by decide +kernel
theorem dX3_init_74 : decode cX3_init 74 = .ok (.bipush 16, 2) := by decide +kernel
theorem dX3_init_76 : decode cX3_init 76 = .ok (.anewarray 41, 3) := by decide +kernel
theorem dX3_init_79 : decode cX3_init 79 = .ok (.putfield 43, 3) := by decide +kernel
theorem dX3_init_82 : decode cX3_init 82 = .ok (.iconst 0, 1) := by decide +kernel
theorem dX3_init_83 : decode cX3_init 83 = .ok (.istore_n 2, 1) := by decide +kernel
theorem dX3_init_84 : decode cX3_init 84 = .ok (.iload_n 2, 1) := by decide +kernel
theorem dX3_init_85 : decode cX3_init 85 = .ok (.bipush 16, 2) := by decide +kernel
theorem dX3_init_87 : decode cX3_init 87 = .ok (.if_icmp .ge 22, 3) := by decide +kernel
theorem dX3_init_90 : decode cX3_init 90 = .ok (.aload_n 0, 1) := by decide +kernel
theorem dX3_init_91 : decode cX3_init 91 = .ok (.getfield 43, 3) := by decide +kernel
theorem dX3_init_94 : decode cX3_init 94 = .ok (.iload_n 2, 1) := by decide +kernel
theorem dX3_init_95 : decode cX3_init 95 = .ok (.new 41, 3) := by decide +kernel
theorem dX3_init_98 : decode cX3_init 98 = .ok (.dup, 1) := by decide +kernel
theorem dX3_init_99 : decode cX3_init 99 = .ok (.invokespecial 47, 3) := by decide +kernel
theorem dX3_init_102 : decode cX3_init 102 = .ok (.aastore, 1) := by decide +kernel
theorem dX3_init_103 : decode cX3_init 103 = .ok (.iinc 2 1, 3) := by decide +kernel
theorem dX3_init_106 : decode cX3_init 106 = .ok (.goto (-22), 3) := by decide +kernel
theorem dX3_init_109 : decode cX3_init 109 = .ok (.aload_n 0, 1) := by decide +kernel
theorem dX3_init_110 : decode cX3_init 110 = .ok (.new 41, 3) := by decide +kernel
theorem dX3_init_113 : decode cX3_init 113 = .ok (.dup, 1) := by decide +kernel
theorem dX3_init_114 : decode cX3_init 114 = .ok (.invokespecial 47, 3) := by decide +kernel
theorem dX3_init_117 : decode cX3_init 117 = .ok (.putfield 48, 3) := by decide +kernel
theorem dX3_init_120 : decode cX3_init 120 = .ok (.return_, 1) := by decide +kernel
theorem dX3_order_0 : decode cX3_order 0 = .ok (.iload_n 1, 1) := by decide +kernel
theorem dX3_order_1 : decode cX3_order 1 = .ok (.iconst 0, 1) := by decide +kernel
theorem dX3_order_2 : decode cX3_order 2 = .ok (.ldc 52, 2) := by decide +kernel
theorem dX3_order_4 : decode cX3_order 4 = .ok (.invokestatic 53, 3) := by decide +kernel
theorem dX3_order_7 : decode cX3_order 7 = .ok (.iload_n 2, 1) := by decide +kernel
theorem dX3_order_8 : decode cX3_order 8 = .ok (.iconst 0, 1) := by decide +kernel
theorem dX3_order_9 : decode cX3_order 9 = .ok (.bipush 7, 2) := by decide +kernel
theorem dX3_order_11 : decode cX3_order 11 = .ok (.invokestatic 53, 3) := by decide +kernel
theorem dX3_order_14 : decode cX3_order 14 = .ok (.iload_n 3, 1) := by decide +kernel
theorem dX3_order_15 : decode cX3_order 15 = .ok (.iconst 1, 1) := by decide +kernel
theorem dX3_order_16 : decode cX3_order 16 = .ok (.sipush 10000, 3) := by decide +kernel
theorem dX3_order_19 : decode cX3_order 19 = .ok (.invokestatic 53, 3) := by decide +kernel
theorem dX3_order_22 : decode cX3_order 22 = .ok (.aload_n 0, 1) := by decide +kernel
theorem dX3_order_23 : decode cX3_order 23 = .ok (.getfield 57, 3) := by decide +kernel
theorem dX3_order_26 : decode cX3_order 26 = .ok (.bipush 16, 2) := by decide +kernel
theorem dX3_order_28 : decode cX3_order 28 = .ok (.if_icmp .lt 13, 3) := by decide +kernel
theorem dX3_order_31 : decode cX3_order 31 = .ok (.new 60, 3) := by decide +kernel
theorem dX3_order_34 : decode cX3_order 34 = .ok (.dup, 1) := by decide +kernel
theorem dX3_order_35 : decode cX3_order 35 = .ok (.ldc 62, 2) := by decide +kernel
theorem dX3_order_37 : decode cX3_order 37 = .ok (.invokespecial 64, 3) := by decide +kernel
theorem dX3_order_40 : decode cX3_order 40 = .ok (.athrow, 1) := by decide +kernel
theorem dX3_order_41 : decode cX3_order 41 = .ok (.aload_n 0, 1) := by decide +kernel
theorem dX3_order_42 : decode cX3_order 42 = .ok (.getfield 36, 3) := by decide +kernel
theorem dX3_order_45 : decode cX3_order 45 = .ok (.aload_n 0, 1) := by decide +kernel
theorem dX3_order_46 : decode cX3_order 46 = .ok (.getfield 57, 3) := by decide +kernel
theorem dX3_order_49 : decode cX3_order 49 = .ok (.aaload, 1) := by decide +kernel
theorem dX3_order_50 : decode cX3_order 50 = .ok (.astore 4, 2) := by decide +kernel
theorem dX3_order_52 : decode cX3_order 52 = .ok (.aload 4, 2) := by decide +kernel
theorem dX3_order_54 : decode cX3_order 54 = .ok (.iload_n 1, 1) := by decide +kernel
theorem dX3_order_55 : decode cX3_order 55 = .ok (.putfield 67, 3) := by decide +kernel
theorem dX3_order_58 : decode cX3_order 58 = .ok (.aload 4, 2) := by decide +kernel
theorem dX3_order_60 : decode cX3_order 60 = .ok (.iload_n 2, 1) := by decide +kernel
theorem dX3_order_61 : decode cX3_order 61 = .ok (.putfield 70, 3) := by decide +kernel
theorem dX3_order_64 : decode cX3_order 64 = .ok (.aload 4, 2) := by decide +kernel
theorem dX3_order_66 : decode cX3_order 66 = .ok (.iload_n 3, 1) := by decide +kernel
theorem dX3_order_67 : decode cX3_order 67 = .ok (.putfield 73, 3) := by decide +kernel
theorem dX3_order_70 : decode cX3_order 70 = .ok (.aload_n 0, 1) := by decide +kernel
theorem dX3_order_71 : decode cX3_order 71 = .ok (.dup, 1) := by decide +kernel
theorem dX3_order_72 : decode cX3_order 72 = .ok (.getfield 57, 3) := by decide +kernel
theorem dX3_order_75 : decode cX3_order 75 = .ok (.iconst 1, 1) := by decide +kernel
theorem dX3_order_76 : decode cX3_order 76 = .ok (.iadd, 1) := by decide +kernel
theorem dX3_order_77 : decode cX3_order 77 = .ok (.putfield 57, 3) := by decide +kernel
theorem dX3_order_80 : decode cX3_order 80 = .ok (.aload_n 0, 1) := by decide +kernel
theorem dX3_order_81 : decode cX3_order 81 = .ok (.getfield 57, 3) := by decide +kernel
theorem dX3_order_84 : decode cX3_order 84 = .ok (.iconst 1, 1) := by decide +kernel
theorem dX3_order_85 : decode cX3_order 85 = .ok (.isub, 1) := by decide +kernel
theorem dX3_order_86 : decode cX3_order 86 = .ok (.ireturn, 1) := by decide +kernel
theorem dX3_line_0 : decode cX3_line 0 = .ok (.aload_n 0, 1) := by decide +kernel
theorem dX3_line_1 : decode cX3_line 1 = .ok (.iload_n 1, 1) := by decide +kernel
theorem dX3_line_2 : decode cX3_line 2 = .ok (.invokevirtual 76, 3) := by decide +kernel
theorem dX3_line_5 : decode cX3_line 5 = .ok (.astore 4, 2) := by decide +kernel
theorem dX3_line_7 : decode cX3_line 7 = .ok (.iload_n 2, 1) := by decide +kernel
theorem dX3_line_8 : decode cX3_line 8 = .ok (.iconst 0, 1) := by decide +kernel
theorem dX3_line_9 : decode cX3_line 9 = .ok (.bipush 9, 2) := by decide +kernel
theorem dX3_line_11 : decode cX3_line 11 = .ok (.invokestatic 53, 3) := by decide +kernel
theorem dX3_line_14 : decode cX3_line 14 = .ok (.iload_n 3, 1) := by decide +kernel
theorem dX3_line_15 : decode cX3_line 15 = .ok (.iconst 1, 1) := by decide +kernel
theorem dX3_line_16 : decode cX3_line 16 = .ok (.bipush 100, 2) := by decide +kernel
theorem dX3_line_18 : decode cX3_line 18 = .ok (.invokestatic 53, 3) := by decide +kernel
theorem dX3_line_21 : decode cX3_line 21 = .ok (.aload 4, 2) := by decide +kernel
theorem dX3_line_23 : decode cX3_line 23 = .ok (.invokestatic 80, 3) := by decide +kernel
theorem dX3_line_26 : decode cX3_line 26 = .ok (.aload 4, 2) := by decide +kernel
theorem dX3_line_28 : decode cX3_line 28 = .ok (.getfield 84, 3) := by decide +kernel
theorem dX3_line_31 : decode cX3_line 31 = .ok (.iload_n 2, 1) := by decide +kernel
theorem dX3_line_32 : decode cX3_line 32 = .ok (.iaload, 1) := by decide +kernel
theorem dX3_line_33 : decode cX3_line 33 = .ok (.ifCond .le 13, 3) := by decide +kernel
theorem dX3_line_36 : decode cX3_line 36 = .ok (.new 87, 3) := by decide +kernel
theorem dX3_line_39 : decode cX3_line 39 = .ok (.dup, 1) := by decide +kernel
theorem dX3_line_40 : decode cX3_line 40 = .ok (.ldc 89, 2) := by decide +kernel
theorem dX3_line_42 : decode cX3_line 42 = .ok (.invokespecial 91, 3) := by decide +kernel
theorem dX3_line_45 : decode cX3_line 45 = .ok (.athrow, 1) := by decide +kernel
theorem dX3_line_46 : decode cX3_line 46 = .ok (.aload 4, 2) := by decide +kernel
theorem dX3_line_48 : decode cX3_line 48 = .ok (.getfield 92, 3) := by decide +kernel
theorem dX3_line_51 : decode cX3_line 51 = .ok (.iconst 4, 1) := by decide +kernel
theorem dX3_line_52 : decode cX3_line 52 = .ok (.if_icmp .lt 13, 3) := by decide +kernel
theorem dX3_line_55 : decode cX3_line 55 = .ok (.new 60, 3) := by decide +kernel
theorem dX3_line_58 : decode cX3_line 58 = .ok (.dup, 1) := by decide +kernel
theorem dX3_line_59 : decode cX3_line 59 = .ok (.ldc 95, 2) := by decide +kernel
theorem dX3_line_61 : decode cX3_line 61 = .ok (.invokespecial 64, 3) := by decide +kernel
theorem dX3_line_64 : decode cX3_line 64 = .ok (.athrow, 1) := by decide +kernel
theorem dX3_line_65 : decode cX3_line 65 = .ok (.aload 4, 2) := by decide +kernel
theorem dX3_line_67 : decode cX3_line 67 = .ok (.getfield 84, 3) := by decide +kernel
theorem dX3_line_70 : decode cX3_line 70 = .ok (.iload_n 2, 1) := by decide +kernel
theorem dX3_line_71 : decode cX3_line 71 = .ok (.iload_n 3, 1) := by decide +kernel
theorem dX3_line_72 : decode cX3_line 72 = .ok (.iastore, 1) := by decide +kernel
theorem dX3_line_73 : decode cX3_line 73 = .ok (.aload 4, 2) := by decide +kernel
theorem dX3_line_75 : decode cX3_line 75 = .ok (.dup, 1) := by decide +kernel
theorem dX3_line_76 : decode cX3_line 76 = .ok (.getfield 92, 3) := by decide +kernel
theorem dX3_line_79 : decode cX3_line 79 = .ok (.iconst 1, 1) := by decide +kernel
theorem dX3_line_80 : decode cX3_line 80 = .ok (.iadd, 1) := by decide +kernel
theorem dX3_line_81 : decode cX3_line 81 = .ok (.putfield 92, 3) := by decide +kernel
theorem dX3_line_84 : decode cX3_line 84 = .ok (.aload 4, 2) := by decide +kernel
theorem dX3_line_86 : decode cX3_line 86 = .ok (.getfield 92, 3) := by decide +kernel
theorem dX3_line_89 : decode cX3_line 89 = .ok (.ireturn, 1) := by decide +kernel
theorem dX3_carrier_0 : decode cX3_carrier 0 = .ok (.aload_n 0, 1) := by decide +kernel
theorem dX3_carrier_1 : decode cX3_carrier 1 = .ok (.iload_n 1, 1) := by decide +kernel
theorem dX3_carrier_2 : decode cX3_carrier 2 = .ok (.invokevirtual 76, 3) := by decide +kernel
theorem dX3_carrier_5 : decode cX3_carrier 5 = .ok (.astore_n 3, 1) := by decide +kernel
theorem dX3_carrier_6 : decode cX3_carrier 6 = .ok (.iload_n 2, 1) := by decide +kernel
theorem dX3_carrier_7 : decode cX3_carrier 7 = .ok (.iconst 0, 1) := by decide +kernel
theorem dX3_carrier_8 : decode cX3_carrier 8 = .ok (.iconst 3, 1) := by decide +kernel
theorem dX3_carrier_9 : decode cX3_carrier 9 = .ok (.invokestatic 53, 3) := by decide +kernel
theorem dX3_carrier_12 : decode cX3_carrier 12 = .ok (.aload_n 3, 1) := by decide +kernel
theorem dX3_carrier_13 : decode cX3_carrier 13 = .ok (.invokestatic 80, 3) := by decide +kernel
theorem dX3_carrier_16 : decode cX3_carrier 16 = .ok (.aload_n 3, 1) := by decide +kernel
theorem dX3_carrier_17 : decode cX3_carrier 17 = .ok (.iload_n 2, 1) := by decide +kernel
theorem dX3_carrier_18 : decode cX3_carrier 18 = .ok (.putfield 97, 3) := by decide +kernel
theorem dX3_carrier_21 : decode cX3_carrier 21 = .ok (.return_, 1) := by decide +kernel
theorem dX3_hour_0 : decode cX3_hour 0 = .ok (.iload_n 1, 1) := by decide +kernel
theorem dX3_hour_1 : decode cX3_hour 1 = .ok (.iconst 0, 1) := by decide +kernel
theorem dX3_hour_2 : decode cX3_hour 2 = .ok (.iconst 3, 1) := by decide +kernel
theorem dX3_hour_3 : decode cX3_hour 3 = .ok (.invokestatic 53, 3) := by decide +kernel
theorem dX3_hour_6 : decode cX3_hour 6 = .ok (.iload_n 2, 1) := by decide +kernel
theorem dX3_hour_7 : decode cX3_hour 7 = .ok (.iconst 0, 1) := by decide +kernel
theorem dX3_hour_8 : decode cX3_hour 8 = .ok (.ldc 52, 2) := by decide +kernel
theorem dX3_hour_10 : decode cX3_hour 10 = .ok (.invokestatic 53, 3) := by decide +kernel
theorem dX3_hour_13 : decode cX3_hour 13 = .ok (.iload_n 3, 1) := by decide +kernel
theorem dX3_hour_14 : decode cX3_hour 14 = .ok (.iload_n 2, 1) := by decide +kernel
theorem dX3_hour_15 : decode cX3_hour 15 = .ok (.ldc 52, 2) := by decide +kernel
theorem dX3_hour_17 : decode cX3_hour 17 = .ok (.invokestatic 53, 3) := by decide +kernel
theorem dX3_hour_20 : decode cX3_hour 20 = .ok (.aload_n 0, 1) := by decide +kernel
theorem dX3_hour_21 : decode cX3_hour 21 = .ok (.getfield 26, 3) := by decide +kernel
theorem dX3_hour_24 : decode cX3_hour 24 = .ok (.getfield 100, 3) := by decide +kernel
theorem dX3_hour_27 : decode cX3_hour 27 = .ok (.bipush 10, 2) := by decide +kernel
theorem dX3_hour_29 : decode cX3_hour 29 = .ok (.if_icmp .lt 13, 3) := by decide +kernel
theorem dX3_hour_32 : decode cX3_hour 32 = .ok (.new 60, 3) := by decide +kernel
theorem dX3_hour_35 : decode cX3_hour 35 = .ok (.dup, 1) := by decide +kernel
theorem dX3_hour_36 : decode cX3_hour 36 = .ok (.ldc 103, 2) := by decide +kernel
theorem dX3_hour_38 : decode cX3_hour 38 = .ok (.invokespecial 64, 3) := by decide +kernel
theorem dX3_hour_41 : decode cX3_hour 41 = .ok (.athrow, 1) := by decide +kernel
theorem dX3_hour_42 : decode cX3_hour 42 = .ok (.aload_n 0, 1) := by decide +kernel
theorem dX3_hour_43 : decode cX3_hour 43 = .ok (.getfield 26, 3) := by decide +kernel
theorem dX3_hour_46 : decode cX3_hour 46 = .ok (.iload_n 1, 1) := by decide +kernel
theorem dX3_hour_47 : decode cX3_hour 47 = .ok (.iload_n 2, 1) := by decide +kernel
theorem dX3_hour_48 : decode cX3_hour 48 = .ok (.iload_n 3, 1) := by decide +kernel
theorem dX3_hour_49 : decode cX3_hour 49 = .ok (.invokevirtual 105, 3) := by decide +kernel
theorem dX3_hour_52 : decode cX3_hour 52 = .ok (.aload_n 0, 1) := by decide +kernel
theorem dX3_hour_53 : decode cX3_hour 53 = .ok (.getfield 26, 3) := by decide +kernel
theorem dX3_hour_56 : decode cX3_hour 56 = .ok (.iload_n 1, 1) := by decide +kernel
theorem dX3_hour_57 : decode cX3_hour 57 = .ok (.invokevirtual 108, 3) := by decide +kernel
theorem dX3_hour_60 : decode cX3_hour 60 = .ok (.ireturn, 1) := by decide +kernel
theorem dX3_stock_0 : decode cX3_stock 0 = .ok (.iload_n 1, 1) := by decide +kernel
theorem dX3_stock_1 : decode cX3_stock 1 = .ok (.iconst 0, 1) := by decide +kernel
theorem dX3_stock_2 : decode cX3_stock 2 = .ok (.bipush 9, 2) := by decide +kernel
theorem dX3_stock_4 : decode cX3_stock 4 = .ok (.invokestatic 53, 3) := by decide +kernel
theorem dX3_stock_7 : decode cX3_stock 7 = .ok (.iload_n 2, 1) := by decide +kernel
theorem dX3_stock_8 : decode cX3_stock 8 = .ok (.iconst 0, 1) := by decide +kernel
theorem dX3_stock_9 : decode cX3_stock 9 = .ok (.sipush 10000, 3) := by decide +kernel
theorem dX3_stock_12 : decode cX3_stock 12 = .ok (.invokestatic 53, 3) := by decide +kernel
theorem dX3_stock_15 : decode cX3_stock 15 = .ok (.aload_n 0, 1) := by decide +kernel
theorem dX3_stock_16 : decode cX3_stock 16 = .ok (.getfield 30, 3) := by decide +kernel
theorem dX3_stock_19 : decode cX3_stock 19 = .ok (.iload_n 1, 1) := by decide +kernel
theorem dX3_stock_20 : decode cX3_stock 20 = .ok (.iload_n 2, 1) := by decide +kernel
theorem dX3_stock_21 : decode cX3_stock 21 = .ok (.iastore, 1) := by decide +kernel
theorem dX3_stock_22 : decode cX3_stock 22 = .ok (.return_, 1) := by decide +kernel
theorem dX3_plan_0 : decode cX3_plan 0 = .ok (.aload_n 0, 1) := by decide +kernel
theorem dX3_plan_1 : decode cX3_plan 1 = .ok (.getfield 112, 3) := by decide +kernel
theorem dX3_plan_4 : decode cX3_plan 4 = .ok (.istore_n 1, 1) := by decide +kernel
theorem dX3_plan_5 : decode cX3_plan 5 = .ok (.aload_n 0, 1) := by decide +kernel
theorem dX3_plan_6 : decode cX3_plan 6 = .ok (.invokevirtual 115, 3) := by decide +kernel
theorem dX3_plan_9 : decode cX3_plan 9 = .ok (.ifCond .ne 18, 3) := by decide +kernel
theorem dX3_plan_12 : decode cX3_plan 12 = .ok (.aload_n 0, 1) := by decide +kernel
theorem dX3_plan_13 : decode cX3_plan 13 = .ok (.iload_n 1, 1) := by decide +kernel
theorem dX3_plan_14 : decode cX3_plan 14 = .ok (.invokevirtual 119, 3) := by decide +kernel
theorem dX3_plan_17 : decode cX3_plan 17 = .ok (.new 60, 3) := by decide +kernel
theorem dX3_plan_20 : decode cX3_plan 20 = .ok (.dup, 1) := by decide +kernel
theorem dX3_plan_21 : decode cX3_plan 21 = .ok (.ldc 123, 2) := by decide +kernel
theorem dX3_plan_23 : decode cX3_plan 23 = .ok (.invokespecial 64, 3) := by decide +kernel
theorem dX3_plan_26 : decode cX3_plan 26 = .ok (.athrow, 1) := by decide +kernel
theorem dX3_plan_27 : decode cX3_plan 27 = .ok (.aload_n 0, 1) := by decide +kernel
theorem dX3_plan_28 : decode cX3_plan 28 = .ok (.iload_n 1, 1) := by decide +kernel
theorem dX3_plan_29 : decode cX3_plan 29 = .ok (.invokevirtual 125, 3) := by decide +kernel
theorem dX3_plan_32 : decode cX3_plan 32 = .ok (.ireturn, 1) := by decide +kernel
theorem dX3_wave_0 : decode cX3_wave 0 = .ok (.aload_n 0, 1) := by decide +kernel
theorem dX3_wave_1 : decode cX3_wave 1 = .ok (.iload_n 1, 1) := by decide +kernel
theorem dX3_wave_2 : decode cX3_wave 2 = .ok (.invokevirtual 76, 3) := by decide +kernel
theorem dX3_wave_5 : decode cX3_wave 5 = .ok (.getfield 128, 3) := by decide +kernel
theorem dX3_wave_8 : decode cX3_wave 8 = .ok (.ireturn, 1) := by decide +kernel
theorem dX3_told_0 : decode cX3_told 0 = .ok (.aload_n 0, 1) := by decide +kernel
theorem dX3_told_1 : decode cX3_told 1 = .ok (.iload_n 1, 1) := by decide +kernel
theorem dX3_told_2 : decode cX3_told 2 = .ok (.invokevirtual 131, 3) := by decide +kernel
theorem dX3_told_5 : decode cX3_told 5 = .ok (.astore_n 3, 1) := by decide +kernel
theorem dX3_told_6 : decode cX3_told 6 = .ok (.iload_n 2, 1) := by decide +kernel
theorem dX3_told_7 : decode cX3_told 7 = .ok (.tableswitch 88 0 6 #[41, 47, 53, 58, 64, 69, 82], 41) := by decide +kernel
theorem dX3_told_48 : decode cX3_told 48 = .ok (.aload_n 0, 1) := by decide +kernel
theorem dX3_told_49 : decode cX3_told 49 = .ok (.aload_n 3, 1) := by decide +kernel
theorem dX3_told_50 : decode cX3_told 50 = .ok (.invokevirtual 135, 3) := by decide +kernel
theorem dX3_told_53 : decode cX3_told 53 = .ok (.ireturn, 1) := by decide +kernel
theorem dX3_told_54 : decode cX3_told 54 = .ok (.aload_n 0, 1) := by decide +kernel
theorem dX3_told_55 : decode cX3_told 55 = .ok (.aload_n 3, 1) := by decide +kernel
theorem dX3_told_56 : decode cX3_told 56 = .ok (.invokevirtual 139, 3) := by decide +kernel
theorem dX3_told_59 : decode cX3_told 59 = .ok (.ireturn, 1) := by decide +kernel
theorem dX3_told_60 : decode cX3_told 60 = .ok (.aload_n 3, 1) := by decide +kernel
theorem dX3_told_61 : decode cX3_told 61 = .ok (.getfield 142, 3) := by decide +kernel
theorem dX3_told_64 : decode cX3_told 64 = .ok (.ireturn, 1) := by decide +kernel
theorem dX3_told_65 : decode cX3_told 65 = .ok (.aload_n 0, 1) := by decide +kernel
theorem dX3_told_66 : decode cX3_told 66 = .ok (.aload_n 3, 1) := by decide +kernel
theorem dX3_told_67 : decode cX3_told 67 = .ok (.invokevirtual 143, 3) := by decide +kernel
theorem dX3_told_70 : decode cX3_told 70 = .ok (.ireturn, 1) := by decide +kernel
theorem dX3_told_71 : decode cX3_told 71 = .ok (.aload_n 3, 1) := by decide +kernel
theorem dX3_told_72 : decode cX3_told 72 = .ok (.getfield 146, 3) := by decide +kernel
theorem dX3_told_75 : decode cX3_told 75 = .ok (.ireturn, 1) := by decide +kernel
theorem dX3_told_76 : decode cX3_told 76 = .ok (.aload_n 3, 1) := by decide +kernel
theorem dX3_told_77 : decode cX3_told 77 = .ok (.getfield 147, 3) := by decide +kernel
theorem dX3_told_80 : decode cX3_told 80 = .ok (.ifCond .eq 7, 3) := by decide +kernel
theorem dX3_told_83 : decode cX3_told 83 = .ok (.iconst 1, 1) := by decide +kernel
theorem dX3_told_84 : decode cX3_told 84 = .ok (.goto 4, 3) := by decide +kernel
theorem dX3_told_87 : decode cX3_told 87 = .ok (.iconst 0, 1) := by decide +kernel
theorem dX3_told_88 : decode cX3_told 88 = .ok (.ireturn, 1) := by decide +kernel
theorem dX3_told_89 : decode cX3_told 89 = .ok (.aload_n 0, 1) := by decide +kernel
theorem dX3_told_90 : decode cX3_told 90 = .ok (.aload_n 3, 1) := by decide +kernel
theorem dX3_told_91 : decode cX3_told 91 = .ok (.invokevirtual 151, 3) := by decide +kernel
theorem dX3_told_94 : decode cX3_told 94 = .ok (.ireturn, 1) := by decide +kernel
theorem dX3_told_95 : decode cX3_told 95 = .ok (.new 154, 3) := by decide +kernel
theorem dX3_told_98 : decode cX3_told 98 = .ok (.dup, 1) := by decide +kernel
theorem dX3_told_99 : decode cX3_told 99 = .ok (.ldc 156, 2) := by decide +kernel
theorem dX3_told_101 : decode cX3_told 101 = .ok (.invokespecial 158, 3) := by decide +kernel
theorem dX3_told_104 : decode cX3_told 104 = .ok (.athrow, 1) := by decide +kernel
theorem dX3_member_0 : decode cX3_member 0 = .ok (.aload_n 0, 1) := by decide +kernel
theorem dX3_member_1 : decode cX3_member 1 = .ok (.iload_n 1, 1) := by decide +kernel
theorem dX3_member_2 : decode cX3_member 2 = .ok (.invokevirtual 131, 3) := by decide +kernel
theorem dX3_member_5 : decode cX3_member 5 = .ok (.astore_n 3, 1) := by decide +kernel
theorem dX3_member_6 : decode cX3_member 6 = .ok (.iload_n 2, 1) := by decide +kernel
theorem dX3_member_7 : decode cX3_member 7 = .ok (.ifCond .lt 11, 3) := by decide +kernel
theorem dX3_member_10 : decode cX3_member 10 = .ok (.iload_n 2, 1) := by decide +kernel
theorem dX3_member_11 : decode cX3_member 11 = .ok (.aload_n 3, 1) := by decide +kernel
theorem dX3_member_12 : decode cX3_member 12 = .ok (.getfield 142, 3) := by decide +kernel
theorem dX3_member_15 : decode cX3_member 15 = .ok (.if_icmp .lt 13, 3) := by decide +kernel
theorem dX3_member_18 : decode cX3_member 18 = .ok (.new 159, 3) := by decide +kernel
theorem dX3_member_21 : decode cX3_member 21 = .ok (.dup, 1) := by decide +kernel
theorem dX3_member_22 : decode cX3_member 22 = .ok (.ldc 161, 2) := by decide +kernel
theorem dX3_member_24 : decode cX3_member 24 = .ok (.invokespecial 163, 3) := by decide +kernel
theorem dX3_member_27 : decode cX3_member 27 = .ok (.athrow, 1) := by decide +kernel
theorem dX3_member_28 : decode cX3_member 28 = .ok (.aload_n 3, 1) := by decide +kernel
theorem dX3_member_29 : decode cX3_member 29 = .ok (.getfield 164, 3) := by decide +kernel
theorem dX3_member_32 : decode cX3_member 32 = .ok (.iload_n 2, 1) := by decide +kernel
theorem dX3_member_33 : decode cX3_member 33 = .ok (.iaload, 1) := by decide +kernel
theorem dX3_member_34 : decode cX3_member 34 = .ok (.ireturn, 1) := by decide +kernel
theorem dX3_replenish_0 : decode cX3_replenish 0 = .ok (.aload_n 0, 1) := by decide +kernel
theorem dX3_replenish_1 : decode cX3_replenish 1 = .ok (.iload_n 1, 1) := by decide +kernel
theorem dX3_replenish_2 : decode cX3_replenish 2 = .ok (.invokevirtual 131, 3) := by decide +kernel
theorem dX3_replenish_5 : decode cX3_replenish 5 = .ok (.pop, 1) := by decide +kernel
theorem dX3_replenish_6 : decode cX3_replenish 6 = .ok (.iload_n 2, 1) := by decide +kernel
theorem dX3_replenish_7 : decode cX3_replenish 7 = .ok (.invokestatic 167, 3) := by decide +kernel
theorem dX3_replenish_10 : decode cX3_replenish 10 = .ok (.aload_n 0, 1) := by decide +kernel
theorem dX3_replenish_11 : decode cX3_replenish 11 = .ok (.iload_n 1, 1) := by decide +kernel
theorem dX3_replenish_12 : decode cX3_replenish 12 = .ok (.iload_n 2, 1) := by decide +kernel
theorem dX3_replenish_13 : decode cX3_replenish 13 = .ok (.invokevirtual 170, 3) := by decide +kernel
theorem dX3_replenish_16 : decode cX3_replenish 16 = .ok (.ireturn, 1) := by decide +kernel
theorem dX3_lacks_0 : decode cX3_lacks 0 = .ok (.aload_n 0, 1) := by decide +kernel
theorem dX3_lacks_1 : decode cX3_lacks 1 = .ok (.iload_n 1, 1) := by decide +kernel
theorem dX3_lacks_2 : decode cX3_lacks 2 = .ok (.invokevirtual 131, 3) := by decide +kernel
theorem dX3_lacks_5 : decode cX3_lacks 5 = .ok (.pop, 1) := by decide +kernel
theorem dX3_lacks_6 : decode cX3_lacks 6 = .ok (.iload_n 2, 1) := by decide +kernel
theorem dX3_lacks_7 : decode cX3_lacks 7 = .ok (.iconst 0, 1) := by decide +kernel
theorem dX3_lacks_8 : decode cX3_lacks 8 = .ok (.bipush 9, 2) := by decide +kernel
theorem dX3_lacks_10 : decode cX3_lacks 10 = .ok (.invokestatic 53, 3) := by decide +kernel
theorem dX3_lacks_13 : decode cX3_lacks 13 = .ok (.aload_n 0, 1) := by decide +kernel
theorem dX3_lacks_14 : decode cX3_lacks 14 = .ok (.iload_n 1, 1) := by decide +kernel
theorem dX3_lacks_15 : decode cX3_lacks 15 = .ok (.iload_n 2, 1) := by decide +kernel
theorem dX3_lacks_16 : decode cX3_lacks 16 = .ok (.invokevirtual 173, 3) := by decide +kernel
theorem dX3_lacks_19 : decode cX3_lacks 19 = .ok (.ireturn, 1) := by decide +kernel
theorem dX3_release_0 : decode cX3_release 0 = .ok (.aload_n 0, 1) := by decide +kernel
theorem dX3_release_1 : decode cX3_release 1 = .ok (.iload_n 1, 1) := by decide +kernel
theorem dX3_release_2 : decode cX3_release 2 = .ok (.invokevirtual 131, 3) := by decide +kernel
theorem dX3_release_5 : decode cX3_release 5 = .ok (.astore_n 2, 1) := by decide +kernel
theorem dX3_release_6 : decode cX3_release 6 = .ok (.aload_n 2, 1) := by decide +kernel
theorem dX3_release_7 : decode cX3_release 7 = .ok (.invokestatic 176, 3) := by decide +kernel
theorem dX3_release_10 : decode cX3_release 10 = .ok (.aload_n 0, 1) := by decide +kernel
theorem dX3_release_11 : decode cX3_release 11 = .ok (.aload_n 2, 1) := by decide +kernel
theorem dX3_release_12 : decode cX3_release 12 = .ok (.invokevirtual 180, 3) := by decide +kernel
theorem dX3_release_15 : decode cX3_release 15 = .ok (.ifCond .ne 5, 3) := by decide +kernel
theorem dX3_release_18 : decode cX3_release 18 = .ok (.iconst 1, 1) := by decide +kernel
theorem dX3_release_19 : decode cX3_release 19 = .ok (.ireturn, 1) := by decide +kernel
theorem dX3_release_20 : decode cX3_release 20 = .ok (.aload_n 0, 1) := by decide +kernel
theorem dX3_release_21 : decode cX3_release 21 = .ok (.iload_n 1, 1) := by decide +kernel
theorem dX3_release_22 : decode cX3_release 22 = .ok (.iconst 0, 1) := by decide +kernel
theorem dX3_release_23 : decode cX3_release 23 = .ok (.invokevirtual 170, 3) := by decide +kernel
theorem dX3_release_26 : decode cX3_release 26 = .ok (.iconst (-1), 1) := by decide +kernel
theorem dX3_release_27 : decode cX3_release 27 = .ok (.if_icmp .eq 5, 3) := by decide +kernel
theorem dX3_release_30 : decode cX3_release 30 = .ok (.iconst 2, 1) := by decide +kernel
theorem dX3_release_31 : decode cX3_release 31 = .ok (.ireturn, 1) := by decide +kernel
theorem dX3_release_32 : decode cX3_release 32 = .ok (.aload_n 2, 1) := by decide +kernel
theorem dX3_release_33 : decode cX3_release 33 = .ok (.iconst 1, 1) := by decide +kernel
theorem dX3_release_34 : decode cX3_release 34 = .ok (.putfield 147, 3) := by decide +kernel
theorem dX3_release_37 : decode cX3_release 37 = .ok (.iconst 0, 1) := by decide +kernel
theorem dX3_release_38 : decode cX3_release 38 = .ok (.ireturn, 1) := by decide +kernel
theorem dX3_done_0 : decode cX3_done 0 = .ok (.aload_n 0, 1) := by decide +kernel
theorem dX3_done_1 : decode cX3_done 1 = .ok (.iload_n 1, 1) := by decide +kernel
theorem dX3_done_2 : decode cX3_done 2 = .ok (.invokevirtual 76, 3) := by decide +kernel
theorem dX3_done_5 : decode cX3_done 5 = .ok (.astore_n 2, 1) := by decide +kernel
theorem dX3_done_6 : decode cX3_done 6 = .ok (.aload_n 0, 1) := by decide +kernel
theorem dX3_done_7 : decode cX3_done 7 = .ok (.aload_n 2, 1) := by decide +kernel
theorem dX3_done_8 : decode cX3_done 8 = .ok (.invokevirtual 184, 3) := by decide +kernel
theorem dX3_done_11 : decode cX3_done 11 = .ok (.ifCond .eq 10, 3) := by decide +kernel
theorem dX3_done_14 : decode cX3_done 14 = .ok (.aload_n 2, 1) := by decide +kernel
theorem dX3_done_15 : decode cX3_done 15 = .ok (.getfield 188, 3) := by decide +kernel
theorem dX3_done_18 : decode cX3_done 18 = .ok (.ifCond .eq 13, 3) := by decide +kernel
theorem dX3_done_21 : decode cX3_done 21 = .ok (.new 87, 3) := by decide +kernel
theorem dX3_done_24 : decode cX3_done 24 = .ok (.dup, 1) := by decide +kernel
theorem dX3_done_25 : decode cX3_done 25 = .ok (.ldc 191, 2) := by decide +kernel
theorem dX3_done_27 : decode cX3_done 27 = .ok (.invokespecial 91, 3) := by decide +kernel
theorem dX3_done_30 : decode cX3_done 30 = .ok (.athrow, 1) := by decide +kernel
theorem dX3_done_31 : decode cX3_done 31 = .ok (.aload_n 2, 1) := by decide +kernel
theorem dX3_done_32 : decode cX3_done 32 = .ok (.iconst 1, 1) := by decide +kernel
theorem dX3_done_33 : decode cX3_done 33 = .ok (.putfield 188, 3) := by decide +kernel
theorem dX3_done_36 : decode cX3_done 36 = .ok (.aload_n 0, 1) := by decide +kernel
theorem dX3_done_37 : decode cX3_done 37 = .ok (.aload_n 2, 1) := by decide +kernel
theorem dX3_done_38 : decode cX3_done 38 = .ok (.invokevirtual 193, 3) := by decide +kernel
theorem dX3_done_41 : decode cX3_done 41 = .ok (.aload_n 0, 1) := by decide +kernel
theorem dX3_done_42 : decode cX3_done 42 = .ok (.getfield 43, 3) := by decide +kernel
theorem dX3_done_45 : decode cX3_done 45 = .ok (.aload_n 2, 1) := by decide +kernel
theorem dX3_done_46 : decode cX3_done 46 = .ok (.getfield 128, 3) := by decide +kernel
theorem dX3_done_49 : decode cX3_done 49 = .ok (.iconst 1, 1) := by decide +kernel
theorem dX3_done_50 : decode cX3_done 50 = .ok (.isub, 1) := by decide +kernel
theorem dX3_done_51 : decode cX3_done 51 = .ok (.aaload, 1) := by decide +kernel
theorem dX3_done_52 : decode cX3_done 52 = .ok (.astore_n 3, 1) := by decide +kernel
theorem dX3_done_53 : decode cX3_done 53 = .ok (.aload_n 3, 1) := by decide +kernel
theorem dX3_done_54 : decode cX3_done 54 = .ok (.getfield 142, 3) := by decide +kernel
theorem dX3_done_57 : decode cX3_done 57 = .ok (.aload_n 0, 1) := by decide +kernel
theorem dX3_done_58 : decode cX3_done 58 = .ok (.aload_n 3, 1) := by decide +kernel
theorem dX3_done_59 : decode cX3_done 59 = .ok (.invokevirtual 151, 3) := by decide +kernel
theorem dX3_done_62 : decode cX3_done 62 = .ok (.isub, 1) := by decide +kernel
theorem dX3_done_63 : decode cX3_done 63 = .ok (.ireturn, 1) := by decide +kernel
theorem dX3_change_0 : decode cX3_change 0 = .ok (.aload_n 0, 1) := by decide +kernel
theorem dX3_change_1 : decode cX3_change 1 = .ok (.iload_n 1, 1) := by decide +kernel
theorem dX3_change_2 : decode cX3_change 2 = .ok (.invokevirtual 76, 3) := by decide +kernel
theorem dX3_change_5 : decode cX3_change 5 = .ok (.astore_n 3, 1) := by decide +kernel
theorem dX3_change_6 : decode cX3_change 6 = .ok (.iload_n 2, 1) := by decide +kernel
theorem dX3_change_7 : decode cX3_change 7 = .ok (.iconst 0, 1) := by decide +kernel
theorem dX3_change_8 : decode cX3_change 8 = .ok (.ldc 52, 2) := by decide +kernel
theorem dX3_change_10 : decode cX3_change 10 = .ok (.invokestatic 53, 3) := by decide +kernel
theorem dX3_change_13 : decode cX3_change 13 = .ok (.aload_n 3, 1) := by decide +kernel
theorem dX3_change_14 : decode cX3_change 14 = .ok (.getfield 128, 3) := by decide +kernel
theorem dX3_change_17 : decode cX3_change 17 = .ok (.iconst (-1), 1) := by decide +kernel
theorem dX3_change_18 : decode cX3_change 18 = .ok (.if_icmp .eq 10, 3) := by decide +kernel
theorem dX3_change_21 : decode cX3_change 21 = .ok (.aload_n 3, 1) := by decide +kernel
theorem dX3_change_22 : decode cX3_change 22 = .ok (.getfield 188, 3) := by decide +kernel
theorem dX3_change_25 : decode cX3_change 25 = .ok (.ifCond .eq 13, 3) := by decide +kernel
theorem dX3_change_28 : decode cX3_change 28 = .ok (.new 87, 3) := by decide +kernel
theorem dX3_change_31 : decode cX3_change 31 = .ok (.dup, 1) := by decide +kernel
theorem dX3_change_32 : decode cX3_change 32 = .ok (.ldc 196, 2) := by decide +kernel
theorem dX3_change_34 : decode cX3_change 34 = .ok (.invokespecial 91, 3) := by decide +kernel
theorem dX3_change_37 : decode cX3_change 37 = .ok (.athrow, 1) := by decide +kernel
theorem dX3_change_38 : decode cX3_change 38 = .ok (.aload_n 3, 1) := by decide +kernel
theorem dX3_change_39 : decode cX3_change 39 = .ok (.iload_n 2, 1) := by decide +kernel
theorem dX3_change_40 : decode cX3_change 40 = .ok (.putfield 67, 3) := by decide +kernel
theorem dX3_change_43 : decode cX3_change 43 = .ok (.aload_n 3, 1) := by decide +kernel
theorem dX3_change_44 : decode cX3_change 44 = .ok (.getfield 128, 3) := by decide +kernel
theorem dX3_change_47 : decode cX3_change 47 = .ok (.ifCond .eq 23, 3) := by decide +kernel
theorem dX3_change_50 : decode cX3_change 50 = .ok (.aload_n 0, 1) := by decide +kernel
theorem dX3_change_51 : decode cX3_change 51 = .ok (.aload_n 3, 1) := by decide +kernel
theorem dX3_change_52 : decode cX3_change 52 = .ok (.invokevirtual 184, 3) := by decide +kernel
theorem dX3_change_55 : decode cX3_change 55 = .ok (.ifCond .ne 15, 3) := by decide +kernel
theorem dX3_change_58 : decode cX3_change 58 = .ok (.aload_n 0, 1) := by decide +kernel
theorem dX3_change_59 : decode cX3_change 59 = .ok (.aload_n 3, 1) := by decide +kernel
theorem dX3_change_60 : decode cX3_change 60 = .ok (.invokevirtual 198, 3) := by decide +kernel
theorem dX3_change_63 : decode cX3_change 63 = .ok (.ifCond .ne 7, 3) := by decide +kernel
theorem dX3_change_66 : decode cX3_change 66 = .ok (.iconst 1, 1) := by decide +kernel
theorem dX3_change_67 : decode cX3_change 67 = .ok (.goto 4, 3) := by decide +kernel
theorem dX3_change_70 : decode cX3_change 70 = .ok (.iconst 0, 1) := by decide +kernel
theorem dX3_change_71 : decode cX3_change 71 = .ok (.istore 4, 2) := by decide +kernel
theorem dX3_change_73 : decode cX3_change 73 = .ok (.iload 4, 2) := by decide +kernel
theorem dX3_change_75 : decode cX3_change 75 = .ok (.ifCond .eq 9, 3) := by decide +kernel
theorem dX3_change_78 : decode cX3_change 78 = .ok (.aload_n 0, 1) := by decide +kernel
theorem dX3_change_79 : decode cX3_change 79 = .ok (.iload_n 1, 1) := by decide +kernel
theorem dX3_change_80 : decode cX3_change 80 = .ok (.iconst 0, 1) := by decide +kernel
theorem dX3_change_81 : decode cX3_change 81 = .ok (.invokevirtual 201, 3) := by decide +kernel
theorem dX3_change_84 : decode cX3_change 84 = .ok (.iload 4, 2) := by decide +kernel
theorem dX3_change_86 : decode cX3_change 86 = .ok (.ireturn, 1) := by decide +kernel
theorem dX3_join_0 : decode cX3_join 0 = .ok (.aload_n 0, 1) := by decide +kernel
theorem dX3_join_1 : decode cX3_join 1 = .ok (.iload_n 1, 1) := by decide +kernel
theorem dX3_join_2 : decode cX3_join 2 = .ok (.invokevirtual 131, 3) := by decide +kernel
theorem dX3_join_5 : decode cX3_join 5 = .ok (.astore_n 3, 1) := by decide +kernel
theorem dX3_join_6 : decode cX3_join 6 = .ok (.aload_n 0, 1) := by decide +kernel
theorem dX3_join_7 : decode cX3_join 7 = .ok (.iload_n 2, 1) := by decide +kernel
theorem dX3_join_8 : decode cX3_join 8 = .ok (.invokevirtual 131, 3) := by decide +kernel
theorem dX3_join_11 : decode cX3_join 11 = .ok (.astore 4, 2) := by decide +kernel
theorem dX3_join_13 : decode cX3_join 13 = .ok (.aload_n 3, 1) := by decide +kernel
theorem dX3_join_14 : decode cX3_join 14 = .ok (.invokestatic 176, 3) := by decide +kernel
theorem dX3_join_17 : decode cX3_join 17 = .ok (.aload 4, 2) := by decide +kernel
theorem dX3_join_19 : decode cX3_join 19 = .ok (.invokestatic 176, 3) := by decide +kernel
theorem dX3_join_22 : decode cX3_join 22 = .ok (.iload_n 1, 1) := by decide +kernel
theorem dX3_join_23 : decode cX3_join 23 = .ok (.iload_n 2, 1) := by decide +kernel
theorem dX3_join_24 : decode cX3_join 24 = .ok (.if_icmp .eq 15, 3) := by decide +kernel
theorem dX3_join_27 : decode cX3_join 27 = .ok (.aload_n 3, 1) := by decide +kernel
theorem dX3_join_28 : decode cX3_join 28 = .ok (.getfield 146, 3) := by decide +kernel
theorem dX3_join_31 : decode cX3_join 31 = .ok (.aload 4, 2) := by decide +kernel
theorem dX3_join_33 : decode cX3_join 33 = .ok (.getfield 146, 3) := by decide +kernel
theorem dX3_join_36 : decode cX3_join 36 = .ok (.if_icmp .eq 13, 3) := by decide +kernel
theorem dX3_join_39 : decode cX3_join 39 = .ok (.new 87, 3) := by decide +kernel
theorem dX3_join_42 : decode cX3_join 42 = .ok (.dup, 1) := by decide +kernel
theorem dX3_join_43 : decode cX3_join 43 = .ok (.ldc 205, 2) := by decide +kernel
theorem dX3_join_45 : decode cX3_join 45 = .ok (.invokespecial 91, 3) := by decide +kernel
theorem dX3_join_48 : decode cX3_join 48 = .ok (.athrow, 1) := by decide +kernel
theorem dX3_join_49 : decode cX3_join 49 = .ok (.aload_n 0, 1) := by decide +kernel
theorem dX3_join_50 : decode cX3_join 50 = .ok (.getfield 48, 3) := by decide +kernel
theorem dX3_join_53 : decode cX3_join 53 = .ok (.invokevirtual 207, 3) := by decide +kernel
theorem dX3_join_56 : decode cX3_join 56 = .ok (.aload_n 0, 1) := by decide +kernel
theorem dX3_join_57 : decode cX3_join 57 = .ok (.getfield 48, 3) := by decide +kernel
theorem dX3_join_60 : decode cX3_join 60 = .ok (.aload_n 3, 1) := by decide +kernel
theorem dX3_join_61 : decode cX3_join 61 = .ok (.invokevirtual 210, 3) := by decide +kernel
theorem dX3_join_64 : decode cX3_join 64 = .ok (.aload_n 0, 1) := by decide +kernel
theorem dX3_join_65 : decode cX3_join 65 = .ok (.getfield 48, 3) := by decide +kernel
theorem dX3_join_68 : decode cX3_join 68 = .ok (.aload 4, 2) := by decide +kernel
theorem dX3_join_70 : decode cX3_join 70 = .ok (.invokevirtual 210, 3) := by decide +kernel
theorem dX3_join_73 : decode cX3_join 73 = .ok (.aload_n 0, 1) := by decide +kernel
theorem dX3_join_74 : decode cX3_join 74 = .ok (.aload_n 0, 1) := by decide +kernel
theorem dX3_join_75 : decode cX3_join 75 = .ok (.getfield 48, 3) := by decide +kernel
theorem dX3_join_78 : decode cX3_join 78 = .ok (.invokevirtual 135, 3) := by decide +kernel
theorem dX3_join_81 : decode cX3_join 81 = .ok (.istore 5, 2) := by decide +kernel
theorem dX3_join_83 : decode cX3_join 83 = .ok (.iload 5, 2) := by decide +kernel
theorem dX3_join_85 : decode cX3_join 85 = .ok (.aload_n 0, 1) := by decide +kernel
theorem dX3_join_86 : decode cX3_join 86 = .ok (.getfield 19, 3) := by decide +kernel
theorem dX3_join_89 : decode cX3_join 89 = .ok (.if_icmp .le 13, 3) := by decide +kernel
theorem dX3_join_92 : decode cX3_join 92 = .ok (.new 87, 3) := by decide +kernel
theorem dX3_join_95 : decode cX3_join 95 = .ok (.dup, 1) := by decide +kernel
theorem dX3_join_96 : decode cX3_join 96 = .ok (.ldc 213, 2) := by decide +kernel
theorem dX3_join_98 : decode cX3_join 98 = .ok (.invokespecial 91, 3) := by decide +kernel
theorem dX3_join_101 : decode cX3_join 101 = .ok (.athrow, 1) := by decide +kernel
theorem dX3_join_102 : decode cX3_join 102 = .ok (.iconst 0, 1) := by decide +kernel
theorem dX3_join_103 : decode cX3_join 103 = .ok (.istore 6, 2) := by decide +kernel
theorem dX3_join_105 : decode cX3_join 105 = .ok (.iload 6, 2) := by decide +kernel
theorem dX3_join_107 : decode cX3_join 107 = .ok (.aload 4, 2) := by decide +kernel
theorem dX3_join_109 : decode cX3_join 109 = .ok (.getfield 142, 3) := by decide +kernel
theorem dX3_join_112 : decode cX3_join 112 = .ok (.if_icmp .ge 26, 3) := by decide +kernel
theorem dX3_join_115 : decode cX3_join 115 = .ok (.aload_n 0, 1) := by decide +kernel
theorem dX3_join_116 : decode cX3_join 116 = .ok (.getfield 36, 3) := by decide +kernel
theorem dX3_join_119 : decode cX3_join 119 = .ok (.aload 4, 2) := by decide +kernel
theorem dX3_join_121 : decode cX3_join 121 = .ok (.getfield 164, 3) := by decide +kernel
theorem dX3_join_124 : decode cX3_join 124 = .ok (.iload 6, 2) := by decide +kernel
theorem dX3_join_126 : decode cX3_join 126 = .ok (.iaload, 1) := by decide +kernel
theorem dX3_join_127 : decode cX3_join 127 = .ok (.aaload, 1) := by decide +kernel
theorem dX3_join_128 : decode cX3_join 128 = .ok (.iload_n 1, 1) := by decide +kernel
theorem dX3_join_129 : decode cX3_join 129 = .ok (.putfield 128, 3) := by decide +kernel
theorem dX3_join_132 : decode cX3_join 132 = .ok (.iinc 6 1, 3) := by decide +kernel
theorem dX3_join_135 : decode cX3_join 135 = .ok (.goto (-30), 3) := by decide +kernel
theorem dX3_join_138 : decode cX3_join 138 = .ok (.aload_n 3, 1) := by decide +kernel
theorem dX3_join_139 : decode cX3_join 139 = .ok (.aload 4, 2) := by decide +kernel
theorem dX3_join_141 : decode cX3_join 141 = .ok (.invokevirtual 210, 3) := by decide +kernel
theorem dX3_join_144 : decode cX3_join 144 = .ok (.aload 4, 2) := by decide +kernel
theorem dX3_join_146 : decode cX3_join 146 = .ok (.invokevirtual 207, 3) := by decide +kernel
theorem dX3_join_149 : decode cX3_join 149 = .ok (.iload 5, 2) := by decide +kernel
theorem dX3_join_151 : decode cX3_join 151 = .ok (.ireturn, 1) := by decide +kernel
theorem dX3_cutoff_0 : decode cX3_cutoff 0 = .ok (.iload_n 1, 1) := by decide +kernel
theorem dX3_cutoff_1 : decode cX3_cutoff 1 = .ok (.iconst 0, 1) := by decide +kernel
theorem dX3_cutoff_2 : decode cX3_cutoff 2 = .ok (.iconst 3, 1) := by decide +kernel
theorem dX3_cutoff_3 : decode cX3_cutoff 3 = .ok (.invokestatic 53, 3) := by decide +kernel
theorem dX3_cutoff_6 : decode cX3_cutoff 6 = .ok (.iload_n 2, 1) := by decide +kernel
theorem dX3_cutoff_7 : decode cX3_cutoff 7 = .ok (.iconst 0, 1) := by decide +kernel
theorem dX3_cutoff_8 : decode cX3_cutoff 8 = .ok (.ldc 52, 2) := by decide +kernel
theorem dX3_cutoff_10 : decode cX3_cutoff 10 = .ok (.invokestatic 53, 3) := by decide +kernel
theorem dX3_cutoff_13 : decode cX3_cutoff 13 = .ok (.iconst 0, 1) := by decide +kernel
theorem dX3_cutoff_14 : decode cX3_cutoff 14 = .ok (.istore_n 3, 1) := by decide +kernel
theorem dX3_cutoff_15 : decode cX3_cutoff 15 = .ok (.iconst 0, 1) := by decide +kernel
theorem dX3_cutoff_16 : decode cX3_cutoff 16 = .ok (.istore 4, 2) := by decide +kernel
theorem dX3_cutoff_18 : decode cX3_cutoff 18 = .ok (.iload 4, 2) := by decide +kernel
theorem dX3_cutoff_20 : decode cX3_cutoff 20 = .ok (.aload_n 0, 1) := by decide +kernel
theorem dX3_cutoff_21 : decode cX3_cutoff 21 = .ok (.getfield 57, 3) := by decide +kernel
theorem dX3_cutoff_24 : decode cX3_cutoff 24 = .ok (.if_icmp .ge 64, 3) := by decide +kernel
theorem dX3_cutoff_27 : decode cX3_cutoff 27 = .ok (.aload_n 0, 1) := by decide +kernel
theorem dX3_cutoff_28 : decode cX3_cutoff 28 = .ok (.getfield 36, 3) := by decide +kernel
theorem dX3_cutoff_31 : decode cX3_cutoff 31 = .ok (.iload 4, 2) := by decide +kernel
theorem dX3_cutoff_33 : decode cX3_cutoff 33 = .ok (.aaload, 1) := by decide +kernel
theorem dX3_cutoff_34 : decode cX3_cutoff 34 = .ok (.astore 5, 2) := by decide +kernel
theorem dX3_cutoff_36 : decode cX3_cutoff 36 = .ok (.aload 5, 2) := by decide +kernel
theorem dX3_cutoff_38 : decode cX3_cutoff 38 = .ok (.getfield 97, 3) := by decide +kernel
theorem dX3_cutoff_41 : decode cX3_cutoff 41 = .ok (.iload_n 1, 1) := by decide +kernel
theorem dX3_cutoff_42 : decode cX3_cutoff 42 = .ok (.if_icmp .ne 40, 3) := by decide +kernel
theorem dX3_cutoff_45 : decode cX3_cutoff 45 = .ok (.aload 5, 2) := by decide +kernel
theorem dX3_cutoff_47 : decode cX3_cutoff 47 = .ok (.getfield 67, 3) := by decide +kernel
theorem dX3_cutoff_50 : decode cX3_cutoff 50 = .ok (.iload_n 2, 1) := by decide +kernel
theorem dX3_cutoff_51 : decode cX3_cutoff 51 = .ok (.if_icmp .gt 31, 3) := by decide +kernel
theorem dX3_cutoff_54 : decode cX3_cutoff 54 = .ok (.aload 5, 2) := by decide +kernel
theorem dX3_cutoff_56 : decode cX3_cutoff 56 = .ok (.getfield 128, 3) := by decide +kernel
theorem dX3_cutoff_59 : decode cX3_cutoff 59 = .ok (.iconst (-1), 1) := by decide +kernel
theorem dX3_cutoff_60 : decode cX3_cutoff 60 = .ok (.if_icmp .eq 22, 3) := by decide +kernel
theorem dX3_cutoff_63 : decode cX3_cutoff 63 = .ok (.aload_n 0, 1) := by decide +kernel
theorem dX3_cutoff_64 : decode cX3_cutoff 64 = .ok (.aload 5, 2) := by decide +kernel
theorem dX3_cutoff_66 : decode cX3_cutoff 66 = .ok (.invokevirtual 184, 3) := by decide +kernel
theorem dX3_cutoff_69 : decode cX3_cutoff 69 = .ok (.ifCond .ne 13, 3) := by decide +kernel
theorem dX3_cutoff_72 : decode cX3_cutoff 72 = .ok (.aload_n 0, 1) := by decide +kernel
theorem dX3_cutoff_73 : decode cX3_cutoff 73 = .ok (.iload 4, 2) := by decide +kernel
theorem dX3_cutoff_75 : decode cX3_cutoff 75 = .ok (.iconst (-1), 1) := by decide +kernel
theorem dX3_cutoff_76 : decode cX3_cutoff 76 = .ok (.invokevirtual 201, 3) := by decide +kernel
theorem dX3_cutoff_79 : decode cX3_cutoff 79 = .ok (.iinc 3 1, 3) := by decide +kernel
theorem dX3_cutoff_82 : decode cX3_cutoff 82 = .ok (.iinc 4 1, 3) := by decide +kernel
theorem dX3_cutoff_85 : decode cX3_cutoff 85 = .ok (.goto (-67), 3) := by decide +kernel
theorem dX3_cutoff_88 : decode cX3_cutoff 88 = .ok (.iload_n 3, 1) := by decide +kernel
theorem dX3_cutoff_89 : decode cX3_cutoff 89 = .ok (.ireturn, 1) := by decide +kernel
theorem dX3_late_0 : decode cX3_late 0 = .ok (.iload_n 1, 1) := by decide +kernel
theorem dX3_late_1 : decode cX3_late 1 = .ok (.invokestatic 167, 3) := by decide +kernel
theorem dX3_late_4 : decode cX3_late 4 = .ok (.iconst 0, 1) := by decide +kernel
theorem dX3_late_5 : decode cX3_late 5 = .ok (.istore_n 2, 1) := by decide +kernel
theorem dX3_late_6 : decode cX3_late 6 = .ok (.iconst 0, 1) := by decide +kernel
theorem dX3_late_7 : decode cX3_late 7 = .ok (.istore_n 3, 1) := by decide +kernel
theorem dX3_late_8 : decode cX3_late 8 = .ok (.iload_n 3, 1) := by decide +kernel
theorem dX3_late_9 : decode cX3_late 9 = .ok (.aload_n 0, 1) := by decide +kernel
theorem dX3_late_10 : decode cX3_late 10 = .ok (.getfield 57, 3) := by decide +kernel
theorem dX3_late_13 : decode cX3_late 13 = .ok (.if_icmp .ge 35, 3) := by decide +kernel
theorem dX3_late_16 : decode cX3_late 16 = .ok (.aload_n 0, 1) := by decide +kernel
theorem dX3_late_17 : decode cX3_late 17 = .ok (.getfield 36, 3) := by decide +kernel
theorem dX3_late_20 : decode cX3_late 20 = .ok (.iload_n 3, 1) := by decide +kernel
theorem dX3_late_21 : decode cX3_late 21 = .ok (.aaload, 1) := by decide +kernel
theorem dX3_late_22 : decode cX3_late 22 = .ok (.getfield 128, 3) := by decide +kernel
theorem dX3_late_25 : decode cX3_late 25 = .ok (.iconst (-1), 1) := by decide +kernel
theorem dX3_late_26 : decode cX3_late 26 = .ok (.if_icmp .eq 6, 3) := by decide +kernel
theorem dX3_late_29 : decode cX3_late 29 = .ok (.goto 13, 3) := by decide +kernel
theorem dX3_late_32 : decode cX3_late 32 = .ok (.iload_n 2, 1) := by decide +kernel
theorem dX3_late_33 : decode cX3_late 33 = .ok (.iload_n 1, 1) := by decide +kernel
theorem dX3_late_34 : decode cX3_late 34 = .ok (.if_icmp .ne 5, 3) := by decide +kernel
theorem dX3_late_37 : decode cX3_late 37 = .ok (.iload_n 3, 1) := by decide +kernel
theorem dX3_late_38 : decode cX3_late 38 = .ok (.ireturn, 1) := by decide +kernel
theorem dX3_late_39 : decode cX3_late 39 = .ok (.iinc 2 1, 3) := by decide +kernel
theorem dX3_late_42 : decode cX3_late 42 = .ok (.iinc 3 1, 3) := by decide +kernel
theorem dX3_late_45 : decode cX3_late 45 = .ok (.goto (-37), 3) := by decide +kernel
theorem dX3_late_48 : decode cX3_late 48 = .ok (.iconst (-1), 1) := by decide +kernel
theorem dX3_late_49 : decode cX3_late 49 = .ok (.ireturn, 1) := by decide +kernel
theorem dX3_count_0 : decode cX3_count 0 = .ok (.iload_n 1, 1) := by decide +kernel
theorem dX3_count_1 : decode cX3_count 1 = .ok (.tableswitch 81 0 6 #[43, 48, 53, 59, 65, 70, 76], 43) := by decide +kernel
theorem dX3_count_44 : decode cX3_count 44 = .ok (.aload_n 0, 1) := by decide +kernel
theorem dX3_count_45 : decode cX3_count 45 = .ok (.getfield 57, 3) := by decide +kernel
theorem dX3_count_48 : decode cX3_count 48 = .ok (.ireturn, 1) := by decide +kernel
theorem dX3_count_49 : decode cX3_count 49 = .ok (.aload_n 0, 1) := by decide +kernel
theorem dX3_count_50 : decode cX3_count 50 = .ok (.invokevirtual 215, 3) := by decide +kernel
theorem dX3_count_53 : decode cX3_count 53 = .ok (.ireturn, 1) := by decide +kernel
theorem dX3_count_54 : decode cX3_count 54 = .ok (.aload_n 0, 1) := by decide +kernel
theorem dX3_count_55 : decode cX3_count 55 = .ok (.iconst 0, 1) := by decide +kernel
theorem dX3_count_56 : decode cX3_count 56 = .ok (.invokevirtual 219, 3) := by decide +kernel
theorem dX3_count_59 : decode cX3_count 59 = .ok (.ireturn, 1) := by decide +kernel
theorem dX3_count_60 : decode cX3_count 60 = .ok (.aload_n 0, 1) := by decide +kernel
theorem dX3_count_61 : decode cX3_count 61 = .ok (.iconst (-1), 1) := by decide +kernel
theorem dX3_count_62 : decode cX3_count 62 = .ok (.invokevirtual 219, 3) := by decide +kernel
theorem dX3_count_65 : decode cX3_count 65 = .ok (.ireturn, 1) := by decide +kernel
theorem dX3_count_66 : decode cX3_count 66 = .ok (.aload_n 0, 1) := by decide +kernel
theorem dX3_count_67 : decode cX3_count 67 = .ok (.invokevirtual 222, 3) := by decide +kernel
theorem dX3_count_70 : decode cX3_count 70 = .ok (.ireturn, 1) := by decide +kernel
theorem dX3_count_71 : decode cX3_count 71 = .ok (.aload_n 0, 1) := by decide +kernel
theorem dX3_count_72 : decode cX3_count 72 = .ok (.iconst 0, 1) := by decide +kernel
theorem dX3_count_73 : decode cX3_count 73 = .ok (.invokevirtual 125, 3) := by decide +kernel
theorem dX3_count_76 : decode cX3_count 76 = .ok (.ireturn, 1) := by decide +kernel
theorem dX3_count_77 : decode cX3_count 77 = .ok (.aload_n 0, 1) := by decide +kernel
theorem dX3_count_78 : decode cX3_count 78 = .ok (.getfield 19, 3) := by decide +kernel
theorem dX3_count_81 : decode cX3_count 81 = .ok (.ireturn, 1) := by decide +kernel
theorem dX3_count_82 : decode cX3_count 82 = .ok (.iconst (-1), 1) := by decide +kernel
theorem dX3_count_83 : decode cX3_count 83 = .ok (.ireturn, 1) := by decide +kernel
theorem dX3_requireRange_0 : decode cX3_requireRange 0 = .ok (.iload_n 0, 1) := by decide +kernel
theorem dX3_requireRange_1 : decode cX3_requireRange 1 = .ok (.iload_n 1, 1) := by decide +kernel
theorem dX3_requireRange_2 : decode cX3_requireRange 2 = .ok (.if_icmp .lt 8, 3) := by decide +kernel
theorem dX3_requireRange_5 : decode cX3_requireRange 5 = .ok (.iload_n 0, 1) := by decide +kernel
theorem dX3_requireRange_6 : decode cX3_requireRange 6 = .ok (.iload_n 2, 1) := by decide +kernel
theorem dX3_requireRange_7 : decode cX3_requireRange 7 = .ok (.if_icmp .le 13, 3) := by decide +kernel
theorem dX3_requireRange_10 : decode cX3_requireRange 10 = .ok (.new 154, 3) := by decide +kernel
theorem dX3_requireRange_13 : decode cX3_requireRange 13 = .ok (.dup, 1) := by decide +kernel
theorem dX3_requireRange_14 : decode cX3_requireRange 14 = .ok (.ldc 225, 2) := by decide +kernel
theorem dX3_requireRange_16 : decode cX3_requireRange 16 = .ok (.invokespecial 158, 3) := by decide +kernel
theorem dX3_requireRange_19 : decode cX3_requireRange 19 = .ok (.athrow, 1) := by decide +kernel
theorem dX3_requireRange_20 : decode cX3_requireRange 20 = .ok (.return_, 1) := by decide +kernel
theorem dX3_requireNotNegative_0 : decode cX3_requireNotNegative 0 = .ok (.iload_n 0, 1) := by decide +kernel
theorem dX3_requireNotNegative_1 : decode cX3_requireNotNegative 1 = .ok (.ifCond .ge 13, 3) := by decide +kernel
theorem dX3_requireNotNegative_4 : decode cX3_requireNotNegative 4 = .ok (.new 154, 3) := by decide +kernel
theorem dX3_requireNotNegative_7 : decode cX3_requireNotNegative 7 = .ok (.dup, 1) := by decide +kernel
theorem dX3_requireNotNegative_8 : decode cX3_requireNotNegative 8 = .ok (.ldc 227, 2) := by decide +kernel
theorem dX3_requireNotNegative_10 : decode cX3_requireNotNegative 10 = .ok (.invokespecial 158, 3) := by decide +kernel
theorem dX3_requireNotNegative_13 : decode cX3_requireNotNegative 13 = .ok (.athrow, 1) := by decide +kernel
theorem dX3_requireNotNegative_14 : decode cX3_requireNotNegative 14 = .ok (.return_, 1) := by decide +kernel
theorem dX3_requireFree_0 : decode cX3_requireFree 0 = .ok (.aload_n 0, 1) := by decide +kernel
theorem dX3_requireFree_1 : decode cX3_requireFree 1 = .ok (.getfield 128, 3) := by decide +kernel
theorem dX3_requireFree_4 : decode cX3_requireFree 4 = .ok (.ifCond .eq 13, 3) := by decide +kernel
theorem dX3_requireFree_7 : decode cX3_requireFree 7 = .ok (.new 87, 3) := by decide +kernel
theorem dX3_requireFree_10 : decode cX3_requireFree 10 = .ok (.dup, 1) := by decide +kernel
theorem dX3_requireFree_11 : decode cX3_requireFree 11 = .ok (.ldc 229, 2) := by decide +kernel
theorem dX3_requireFree_13 : decode cX3_requireFree 13 = .ok (.invokespecial 91, 3) := by decide +kernel
theorem dX3_requireFree_16 : decode cX3_requireFree 16 = .ok (.athrow, 1) := by decide +kernel
theorem dX3_requireFree_17 : decode cX3_requireFree 17 = .ok (.return_, 1) := by decide +kernel
theorem dX3_requirePlanned_0 : decode cX3_requirePlanned 0 = .ok (.aload_n 0, 1) := by decide +kernel
theorem dX3_requirePlanned_1 : decode cX3_requirePlanned 1 = .ok (.getfield 147, 3) := by decide +kernel
theorem dX3_requirePlanned_4 : decode cX3_requirePlanned 4 = .ok (.ifCond .eq 13, 3) := by decide +kernel
theorem dX3_requirePlanned_7 : decode cX3_requirePlanned 7 = .ok (.new 87, 3) := by decide +kernel
theorem dX3_requirePlanned_10 : decode cX3_requirePlanned 10 = .ok (.dup, 1) := by decide +kernel
theorem dX3_requirePlanned_11 : decode cX3_requirePlanned 11 = .ok (.ldc 231, 2) := by decide +kernel
theorem dX3_requirePlanned_13 : decode cX3_requirePlanned 13 = .ok (.invokespecial 91, 3) := by decide +kernel
theorem dX3_requirePlanned_16 : decode cX3_requirePlanned 16 = .ok (.athrow, 1) := by decide +kernel
theorem dX3_requirePlanned_17 : decode cX3_requirePlanned 17 = .ok (.return_, 1) := by decide +kernel
theorem dX3_requireOrder_0 : decode cX3_requireOrder 0 = .ok (.iload_n 1, 1) := by decide +kernel
theorem dX3_requireOrder_1 : decode cX3_requireOrder 1 = .ok (.ifCond .lt 11, 3) := by decide +kernel
theorem dX3_requireOrder_4 : decode cX3_requireOrder 4 = .ok (.iload_n 1, 1) := by decide +kernel
theorem dX3_requireOrder_5 : decode cX3_requireOrder 5 = .ok (.aload_n 0, 1) := by decide +kernel
theorem dX3_requireOrder_6 : decode cX3_requireOrder 6 = .ok (.getfield 57, 3) := by decide +kernel
theorem dX3_requireOrder_9 : decode cX3_requireOrder 9 = .ok (.if_icmp .lt 13, 3) := by decide +kernel
theorem dX3_requireOrder_12 : decode cX3_requireOrder 12 = .ok (.new 159, 3) := by decide +kernel
theorem dX3_requireOrder_15 : decode cX3_requireOrder 15 = .ok (.dup, 1) := by decide +kernel
theorem dX3_requireOrder_16 : decode cX3_requireOrder 16 = .ok (.ldc 233, 2) := by decide +kernel
theorem dX3_requireOrder_18 : decode cX3_requireOrder 18 = .ok (.invokespecial 163, 3) := by decide +kernel
theorem dX3_requireOrder_21 : decode cX3_requireOrder 21 = .ok (.athrow, 1) := by decide +kernel
theorem dX3_requireOrder_22 : decode cX3_requireOrder 22 = .ok (.aload_n 0, 1) := by decide +kernel
theorem dX3_requireOrder_23 : decode cX3_requireOrder 23 = .ok (.getfield 36, 3) := by decide +kernel
theorem dX3_requireOrder_26 : decode cX3_requireOrder 26 = .ok (.iload_n 1, 1) := by decide +kernel
theorem dX3_requireOrder_27 : decode cX3_requireOrder 27 = .ok (.aaload, 1) := by decide +kernel
theorem dX3_requireOrder_28 : decode cX3_requireOrder 28 = .ok (.areturn, 1) := by decide +kernel
theorem dX3_requireWave_0 : decode cX3_requireWave 0 = .ok (.iload_n 1, 1) := by decide +kernel
theorem dX3_requireWave_1 : decode cX3_requireWave 1 = .ok (.iconst 1, 1) := by decide +kernel
theorem dX3_requireWave_2 : decode cX3_requireWave 2 = .ok (.if_icmp .lt 25, 3) := by decide +kernel
theorem dX3_requireWave_5 : decode cX3_requireWave 5 = .ok (.iload_n 1, 1) := by decide +kernel
theorem dX3_requireWave_6 : decode cX3_requireWave 6 = .ok (.aload_n 0, 1) := by decide +kernel
theorem dX3_requireWave_7 : decode cX3_requireWave 7 = .ok (.getfield 112, 3) := by decide +kernel
theorem dX3_requireWave_10 : decode cX3_requireWave 10 = .ok (.if_icmp .gt 17, 3) := by decide +kernel
theorem dX3_requireWave_13 : decode cX3_requireWave 13 = .ok (.aload_n 0, 1) := by decide +kernel
theorem dX3_requireWave_14 : decode cX3_requireWave 14 = .ok (.getfield 43, 3) := by decide +kernel
theorem dX3_requireWave_17 : decode cX3_requireWave 17 = .ok (.iload_n 1, 1) := by decide +kernel
theorem dX3_requireWave_18 : decode cX3_requireWave 18 = .ok (.iconst 1, 1) := by decide +kernel
theorem dX3_requireWave_19 : decode cX3_requireWave 19 = .ok (.isub, 1) := by decide +kernel
theorem dX3_requireWave_20 : decode cX3_requireWave 20 = .ok (.aaload, 1) := by decide +kernel
theorem dX3_requireWave_21 : decode cX3_requireWave 21 = .ok (.getfield 142, 3) := by decide +kernel
theorem dX3_requireWave_24 : decode cX3_requireWave 24 = .ok (.ifCond .ne 13, 3) := by decide +kernel
theorem dX3_requireWave_27 : decode cX3_requireWave 27 = .ok (.new 159, 3) := by decide +kernel
theorem dX3_requireWave_30 : decode cX3_requireWave 30 = .ok (.dup, 1) := by decide +kernel
theorem dX3_requireWave_31 : decode cX3_requireWave 31 = .ok (.ldc 235, 2) := by decide +kernel
theorem dX3_requireWave_33 : decode cX3_requireWave 33 = .ok (.invokespecial 163, 3) := by decide +kernel
theorem dX3_requireWave_36 : decode cX3_requireWave 36 = .ok (.athrow, 1) := by decide +kernel
theorem dX3_requireWave_37 : decode cX3_requireWave 37 = .ok (.aload_n 0, 1) := by decide +kernel
theorem dX3_requireWave_38 : decode cX3_requireWave 38 = .ok (.getfield 43, 3) := by decide +kernel
theorem dX3_requireWave_41 : decode cX3_requireWave 41 = .ok (.iload_n 1, 1) := by decide +kernel
theorem dX3_requireWave_42 : decode cX3_requireWave 42 = .ok (.iconst 1, 1) := by decide +kernel
theorem dX3_requireWave_43 : decode cX3_requireWave 43 = .ok (.isub, 1) := by decide +kernel
theorem dX3_requireWave_44 : decode cX3_requireWave 44 = .ok (.aaload, 1) := by decide +kernel
theorem dX3_requireWave_45 : decode cX3_requireWave 45 = .ok (.areturn, 1) := by decide +kernel
theorem dX3_fits_0 : decode cX3_fits 0 = .ok (.aload_n 0, 1) := by decide +kernel
theorem dX3_fits_1 : decode cX3_fits 1 = .ok (.getfield 26, 3) := by decide +kernel
theorem dX3_fits_4 : decode cX3_fits 4 = .ok (.aload_n 1, 1) := by decide +kernel
theorem dX3_fits_5 : decode cX3_fits 5 = .ok (.getfield 97, 3) := by decide +kernel
theorem dX3_fits_8 : decode cX3_fits 8 = .ok (.aload_n 1, 1) := by decide +kernel
theorem dX3_fits_9 : decode cX3_fits 9 = .ok (.getfield 67, 3) := by decide +kernel
theorem dX3_fits_12 : decode cX3_fits 12 = .ok (.invokevirtual 237, 3) := by decide +kernel
theorem dX3_fits_15 : decode cX3_fits 15 = .ok (.ireturn, 1) := by decide +kernel
theorem dX3_allFit_0 : decode cX3_allFit 0 = .ok (.iconst 0, 1) := by decide +kernel
theorem dX3_allFit_1 : decode cX3_allFit 1 = .ok (.istore_n 2, 1) := by decide +kernel
theorem dX3_allFit_2 : decode cX3_allFit 2 = .ok (.iload_n 2, 1) := by decide +kernel
theorem dX3_allFit_3 : decode cX3_allFit 3 = .ok (.aload_n 1, 1) := by decide +kernel
theorem dX3_allFit_4 : decode cX3_allFit 4 = .ok (.getfield 142, 3) := by decide +kernel
theorem dX3_allFit_7 : decode cX3_allFit 7 = .ok (.if_icmp .ge 29, 3) := by decide +kernel
theorem dX3_allFit_10 : decode cX3_allFit 10 = .ok (.aload_n 0, 1) := by decide +kernel
theorem dX3_allFit_11 : decode cX3_allFit 11 = .ok (.aload_n 0, 1) := by decide +kernel
theorem dX3_allFit_12 : decode cX3_allFit 12 = .ok (.getfield 36, 3) := by decide +kernel
theorem dX3_allFit_15 : decode cX3_allFit 15 = .ok (.aload_n 1, 1) := by decide +kernel
theorem dX3_allFit_16 : decode cX3_allFit 16 = .ok (.getfield 164, 3) := by decide +kernel
theorem dX3_allFit_19 : decode cX3_allFit 19 = .ok (.iload_n 2, 1) := by decide +kernel
theorem dX3_allFit_20 : decode cX3_allFit 20 = .ok (.iaload, 1) := by decide +kernel
theorem dX3_allFit_21 : decode cX3_allFit 21 = .ok (.aaload, 1) := by decide +kernel
theorem dX3_allFit_22 : decode cX3_allFit 22 = .ok (.invokevirtual 198, 3) := by decide +kernel
theorem dX3_allFit_25 : decode cX3_allFit 25 = .ok (.ifCond .ne 5, 3) := by decide +kernel
theorem dX3_allFit_28 : decode cX3_allFit 28 = .ok (.iconst 0, 1) := by decide +kernel
theorem dX3_allFit_29 : decode cX3_allFit 29 = .ok (.ireturn, 1) := by decide +kernel
theorem dX3_allFit_30 : decode cX3_allFit 30 = .ok (.iinc 2 1, 3) := by decide +kernel
theorem dX3_allFit_33 : decode cX3_allFit 33 = .ok (.goto (-31), 3) := by decide +kernel
theorem dX3_allFit_36 : decode cX3_allFit 36 = .ok (.iconst 1, 1) := by decide +kernel
theorem dX3_allFit_37 : decode cX3_allFit 37 = .ok (.ireturn, 1) := by decide +kernel
theorem dX3_isReleased_0 : decode cX3_isReleased 0 = .ok (.aload_n 1, 1) := by decide +kernel
theorem dX3_isReleased_1 : decode cX3_isReleased 1 = .ok (.getfield 128, 3) := by decide +kernel
theorem dX3_isReleased_4 : decode cX3_isReleased 4 = .ok (.iconst 1, 1) := by decide +kernel
theorem dX3_isReleased_5 : decode cX3_isReleased 5 = .ok (.if_icmp .lt 35, 3) := by decide +kernel
theorem dX3_isReleased_8 : decode cX3_isReleased 8 = .ok (.aload_n 1, 1) := by decide +kernel
theorem dX3_isReleased_9 : decode cX3_isReleased 9 = .ok (.getfield 128, 3) := by decide +kernel
theorem dX3_isReleased_12 : decode cX3_isReleased 12 = .ok (.aload_n 0, 1) := by decide +kernel
theorem dX3_isReleased_13 : decode cX3_isReleased 13 = .ok (.getfield 112, 3) := by decide +kernel
theorem dX3_isReleased_16 : decode cX3_isReleased 16 = .ok (.if_icmp .gt 24, 3) := by decide +kernel
theorem dX3_isReleased_19 : decode cX3_isReleased 19 = .ok (.aload_n 0, 1) := by decide +kernel
theorem dX3_isReleased_20 : decode cX3_isReleased 20 = .ok (.getfield 43, 3) := by decide +kernel
theorem dX3_isReleased_23 : decode cX3_isReleased 23 = .ok (.aload_n 1, 1) := by decide +kernel
theorem dX3_isReleased_24 : decode cX3_isReleased 24 = .ok (.getfield 128, 3) := by decide +kernel
theorem dX3_isReleased_27 : decode cX3_isReleased 27 = .ok (.iconst 1, 1) := by decide +kernel
theorem dX3_isReleased_28 : decode cX3_isReleased 28 = .ok (.isub, 1) := by decide +kernel
theorem dX3_isReleased_29 : decode cX3_isReleased 29 = .ok (.aaload, 1) := by decide +kernel
theorem dX3_isReleased_30 : decode cX3_isReleased 30 = .ok (.getfield 147, 3) := by decide +kernel
theorem dX3_isReleased_33 : decode cX3_isReleased 33 = .ok (.ifCond .eq 7, 3) := by decide +kernel
theorem dX3_isReleased_36 : decode cX3_isReleased 36 = .ok (.iconst 1, 1) := by decide +kernel
theorem dX3_isReleased_37 : decode cX3_isReleased 37 = .ok (.goto 4, 3) := by decide +kernel
theorem dX3_isReleased_40 : decode cX3_isReleased 40 = .ok (.iconst 0, 1) := by decide +kernel
theorem dX3_isReleased_41 : decode cX3_isReleased 41 = .ok (.ireturn, 1) := by decide +kernel
theorem dX3_takeOut_0 : decode cX3_takeOut 0 = .ok (.aload_n 0, 1) := by decide +kernel
theorem dX3_takeOut_1 : decode cX3_takeOut 1 = .ok (.getfield 36, 3) := by decide +kernel
theorem dX3_takeOut_4 : decode cX3_takeOut 4 = .ok (.iload_n 1, 1) := by decide +kernel
theorem dX3_takeOut_5 : decode cX3_takeOut 5 = .ok (.aaload, 1) := by decide +kernel
theorem dX3_takeOut_6 : decode cX3_takeOut 6 = .ok (.astore_n 3, 1) := by decide +kernel
theorem dX3_takeOut_7 : decode cX3_takeOut 7 = .ok (.aload_n 3, 1) := by decide +kernel
theorem dX3_takeOut_8 : decode cX3_takeOut 8 = .ok (.getfield 128, 3) := by decide +kernel
theorem dX3_takeOut_11 : decode cX3_takeOut 11 = .ok (.iconst 1, 1) := by decide +kernel
theorem dX3_takeOut_12 : decode cX3_takeOut 12 = .ok (.if_icmp .lt 29, 3) := by decide +kernel
theorem dX3_takeOut_15 : decode cX3_takeOut 15 = .ok (.aload_n 3, 1) := by decide +kernel
theorem dX3_takeOut_16 : decode cX3_takeOut 16 = .ok (.getfield 128, 3) := by decide +kernel
theorem dX3_takeOut_19 : decode cX3_takeOut 19 = .ok (.aload_n 0, 1) := by decide +kernel
theorem dX3_takeOut_20 : decode cX3_takeOut 20 = .ok (.getfield 112, 3) := by decide +kernel
theorem dX3_takeOut_23 : decode cX3_takeOut 23 = .ok (.if_icmp .gt 18, 3) := by decide +kernel
theorem dX3_takeOut_26 : decode cX3_takeOut 26 = .ok (.aload_n 0, 1) := by decide +kernel
theorem dX3_takeOut_27 : decode cX3_takeOut 27 = .ok (.getfield 43, 3) := by decide +kernel
theorem dX3_takeOut_30 : decode cX3_takeOut 30 = .ok (.aload_n 3, 1) := by decide +kernel
theorem dX3_takeOut_31 : decode cX3_takeOut 31 = .ok (.getfield 128, 3) := by decide +kernel
theorem dX3_takeOut_34 : decode cX3_takeOut 34 = .ok (.iconst 1, 1) := by decide +kernel
theorem dX3_takeOut_35 : decode cX3_takeOut 35 = .ok (.isub, 1) := by decide +kernel
theorem dX3_takeOut_36 : decode cX3_takeOut 36 = .ok (.aaload, 1) := by decide +kernel
theorem dX3_takeOut_37 : decode cX3_takeOut 37 = .ok (.iload_n 1, 1) := by decide +kernel
theorem dX3_takeOut_38 : decode cX3_takeOut 38 = .ok (.invokevirtual 241, 3) := by decide +kernel
theorem dX3_takeOut_41 : decode cX3_takeOut 41 = .ok (.aload_n 3, 1) := by decide +kernel
theorem dX3_takeOut_42 : decode cX3_takeOut 42 = .ok (.iload_n 2, 1) := by decide +kernel
theorem dX3_takeOut_43 : decode cX3_takeOut 43 = .ok (.putfield 128, 3) := by decide +kernel
theorem dX3_takeOut_46 : decode cX3_takeOut 46 = .ok (.return_, 1) := by decide +kernel
theorem dX3_makeWaves_0 : decode cX3_makeWaves 0 = .ok (.iconst 0, 1) := by decide +kernel
theorem dX3_makeWaves_1 : decode cX3_makeWaves 1 = .ok (.istore_n 1, 1) := by decide +kernel
theorem dX3_makeWaves_2 : decode cX3_makeWaves 2 = .ok (.iload_n 1, 1) := by decide +kernel
theorem dX3_makeWaves_3 : decode cX3_makeWaves 3 = .ok (.aload_n 0, 1) := by decide +kernel
theorem dX3_makeWaves_4 : decode cX3_makeWaves 4 = .ok (.getfield 57, 3) := by decide +kernel
theorem dX3_makeWaves_7 : decode cX3_makeWaves 7 = .ok (.if_icmp .ge 19, 3) := by decide +kernel
theorem dX3_makeWaves_10 : decode cX3_makeWaves 10 = .ok (.aload_n 0, 1) := by decide +kernel
theorem dX3_makeWaves_11 : decode cX3_makeWaves 11 = .ok (.getfield 36, 3) := by decide +kernel
theorem dX3_makeWaves_14 : decode cX3_makeWaves 14 = .ok (.iload_n 1, 1) := by decide +kernel
theorem dX3_makeWaves_15 : decode cX3_makeWaves 15 = .ok (.aaload, 1) := by decide +kernel
theorem dX3_makeWaves_16 : decode cX3_makeWaves 16 = .ok (.iconst 0, 1) := by decide +kernel
theorem dX3_makeWaves_17 : decode cX3_makeWaves 17 = .ok (.putfield 244, 3) := by decide +kernel
theorem dX3_makeWaves_20 : decode cX3_makeWaves 20 = .ok (.iinc 1 1, 3) := by decide +kernel
