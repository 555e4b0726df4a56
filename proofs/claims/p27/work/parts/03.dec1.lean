theorem dX2_readMoving_37 : decode cX2_readMoving 37 = .ok (.iload_n 1, 1) := by decide +kernel
theorem dX2_readMoving_38 : decode cX2_readMoving 38 = .ok (.iastore, 1) := by decide +kernel
theorem dX2_readMoving_39 : decode cX2_readMoving 39 = .ok (.aload_n 0, 1) := by decide +kernel
theorem dX2_readMoving_40 : decode cX2_readMoving 40 = .ok (.getfield 35, 3) := by decide +kernel
theorem dX2_readMoving_43 : decode cX2_readMoving 43 = .ok (.aload_n 0, 1) := by decide +kernel
theorem dX2_readMoving_44 : decode cX2_readMoving 44 = .ok (.getfield 22, 3) := by decide +kernel
theorem dX2_readMoving_47 : decode cX2_readMoving 47 = .ok (.iload_n 2, 1) := by decide +kernel
theorem dX2_readMoving_48 : decode cX2_readMoving 48 = .ok (.iastore, 1) := by decide +kernel
theorem dX2_readMoving_49 : decode cX2_readMoving 49 = .ok (.iload_n 2, 1) := by decide +kernel
theorem dX2_readMoving_50 : decode cX2_readMoving 50 = .ok (.bipush (-4), 2) := by decide +kernel
theorem dX2_readMoving_52 : decode cX2_readMoving 52 = .ok (.if_icmp .eq 7, 3) := by decide +kernel
theorem dX2_readMoving_55 : decode cX2_readMoving 55 = .ok (.iconst 1, 1) := by decide +kernel
theorem dX2_readMoving_56 : decode cX2_readMoving 56 = .ok (.goto 4, 3) := by decide +kernel
theorem dX2_readMoving_59 : decode cX2_readMoving 59 = .ok (.iconst 0, 1) := by decide +kernel
theorem dX2_readMoving_60 : decode cX2_readMoving 60 = .ok (.ireturn, 1) := by decide +kernel
theorem dX2_read_0 : decode cX2_read 0 = .ok (.aload_n 0, 1) := by decide +kernel
theorem dX2_read_1 : decode cX2_read 1 = .ok (.getfield 19, 3) := by decide +kernel
theorem dX2_read_4 : decode cX2_read 4 = .ok (.aload_n 0, 1) := by decide +kernel
theorem dX2_read_5 : decode cX2_read 5 = .ok (.getfield 15, 3) := by decide +kernel
theorem dX2_read_8 : decode cX2_read 8 = .ok (.if_icmp .ge 28, 3) := by decide +kernel
theorem dX2_read_11 : decode cX2_read 11 = .ok (.aload_n 0, 1) := by decide +kernel
theorem dX2_read_12 : decode cX2_read 12 = .ok (.getfield 11, 3) := by decide +kernel
theorem dX2_read_15 : decode cX2_read 15 = .ok (.aload_n 0, 1) := by decide +kernel
theorem dX2_read_16 : decode cX2_read 16 = .ok (.getfield 19, 3) := by decide +kernel
theorem dX2_read_19 : decode cX2_read 19 = .ok (.caload, 1) := by decide +kernel
theorem dX2_read_20 : decode cX2_read 20 = .ok (.iload_n 1, 1) := by decide +kernel
theorem dX2_read_21 : decode cX2_read 21 = .ok (.if_icmp .ne 15, 3) := by decide +kernel
theorem dX2_read_24 : decode cX2_read 24 = .ok (.aload_n 0, 1) := by decide +kernel
theorem dX2_read_25 : decode cX2_read 25 = .ok (.dup, 1) := by decide +kernel
theorem dX2_read_26 : decode cX2_read 26 = .ok (.getfield 19, 3) := by decide +kernel
theorem dX2_read_29 : decode cX2_read 29 = .ok (.iconst 1, 1) := by decide +kernel
theorem dX2_read_30 : decode cX2_read 30 = .ok (.iadd, 1) := by decide +kernel
theorem dX2_read_31 : decode cX2_read 31 = .ok (.putfield 19, 3) := by decide +kernel
theorem dX2_read_34 : decode cX2_read 34 = .ok (.iconst 1, 1) := by decide +kernel
theorem dX2_read_35 : decode cX2_read 35 = .ok (.ireturn, 1) := by decide +kernel
theorem dX2_read_36 : decode cX2_read 36 = .ok (.iconst 0, 1) := by decide +kernel
theorem dX2_read_37 : decode cX2_read 37 = .ok (.ireturn, 1) := by decide +kernel
theorem dX2_readBelow_0 : decode cX2_readBelow 0 = .ok (.aload_n 0, 1) := by decide +kernel
theorem dX2_readBelow_1 : decode cX2_readBelow 1 = .ok (.getfield 19, 3) := by decide +kernel
theorem dX2_readBelow_4 : decode cX2_readBelow 4 = .ok (.aload_n 0, 1) := by decide +kernel
theorem dX2_readBelow_5 : decode cX2_readBelow 5 = .ok (.getfield 15, 3) := by decide +kernel
theorem dX2_readBelow_8 : decode cX2_readBelow 8 = .ok (.if_icmp .ge 18, 3) := by decide +kernel
theorem dX2_readBelow_11 : decode cX2_readBelow 11 = .ok (.aload_n 0, 1) := by decide +kernel
theorem dX2_readBelow_12 : decode cX2_readBelow 12 = .ok (.getfield 11, 3) := by decide +kernel
theorem dX2_readBelow_15 : decode cX2_readBelow 15 = .ok (.aload_n 0, 1) := by decide +kernel
theorem dX2_readBelow_16 : decode cX2_readBelow 16 = .ok (.getfield 19, 3) := by decide +kernel
theorem dX2_readBelow_19 : decode cX2_readBelow 19 = .ok (.caload, 1) := by decide +kernel
theorem dX2_readBelow_20 : decode cX2_readBelow 20 = .ok (.bipush 48, 2) := by decide +kernel
theorem dX2_readBelow_22 : decode cX2_readBelow 22 = .ok (.isub, 1) := by decide +kernel
theorem dX2_readBelow_23 : decode cX2_readBelow 23 = .ok (.goto 5, 3) := by decide +kernel
theorem dX2_readBelow_26 : decode cX2_readBelow 26 = .ok (.bipush (-4), 2) := by decide +kernel
theorem dX2_readBelow_28 : decode cX2_readBelow 28 = .ok (.istore_n 2, 1) := by decide +kernel
theorem dX2_readBelow_29 : decode cX2_readBelow 29 = .ok (.iload_n 2, 1) := by decide +kernel
theorem dX2_readBelow_30 : decode cX2_readBelow 30 = .ok (.ifCond .lt 8, 3) := by decide +kernel
theorem dX2_readBelow_33 : decode cX2_readBelow 33 = .ok (.iload_n 2, 1) := by decide +kernel
theorem dX2_readBelow_34 : decode cX2_readBelow 34 = .ok (.iload_n 1, 1) := by decide +kernel
theorem dX2_readBelow_35 : decode cX2_readBelow 35 = .ok (.if_icmp .lt 6, 3) := by decide +kernel
theorem dX2_readBelow_38 : decode cX2_readBelow 38 = .ok (.bipush (-4), 2) := by decide +kernel
theorem dX2_readBelow_40 : decode cX2_readBelow 40 = .ok (.ireturn, 1) := by decide +kernel
theorem dX2_readBelow_41 : decode cX2_readBelow 41 = .ok (.aload_n 0, 1) := by decide +kernel
theorem dX2_readBelow_42 : decode cX2_readBelow 42 = .ok (.dup, 1) := by decide +kernel
theorem dX2_readBelow_43 : decode cX2_readBelow 43 = .ok (.getfield 19, 3) := by decide +kernel
theorem dX2_readBelow_46 : decode cX2_readBelow 46 = .ok (.iconst 1, 1) := by decide +kernel
theorem dX2_readBelow_47 : decode cX2_readBelow 47 = .ok (.iadd, 1) := by decide +kernel
theorem dX2_readBelow_48 : decode cX2_readBelow 48 = .ok (.putfield 19, 3) := by decide +kernel
theorem dX2_readBelow_51 : decode cX2_readBelow 51 = .ok (.iload_n 2, 1) := by decide +kernel
theorem dX2_readBelow_52 : decode cX2_readBelow 52 = .ok (.ireturn, 1) := by decide +kernel
theorem dX2_readNumber_0 : decode cX2_readNumber 0 = .ok (.iconst 0, 1) := by decide +kernel
theorem dX2_readNumber_1 : decode cX2_readNumber 1 = .ok (.istore_n 3, 1) := by decide +kernel
theorem dX2_readNumber_2 : decode cX2_readNumber 2 = .ok (.aload_n 0, 1) := by decide +kernel
theorem dX2_readNumber_3 : decode cX2_readNumber 3 = .ok (.getfield 19, 3) := by decide +kernel
theorem dX2_readNumber_6 : decode cX2_readNumber 6 = .ok (.istore 4, 2) := by decide +kernel
theorem dX2_readNumber_8 : decode cX2_readNumber 8 = .ok (.iload 4, 2) := by decide +kernel
theorem dX2_readNumber_10 : decode cX2_readNumber 10 = .ok (.aload_n 0, 1) := by decide +kernel
theorem dX2_readNumber_11 : decode cX2_readNumber 11 = .ok (.getfield 15, 3) := by decide +kernel
theorem dX2_readNumber_14 : decode cX2_readNumber 14 = .ok (.if_icmp .ge 67, 3) := by decide +kernel
theorem dX2_readNumber_17 : decode cX2_readNumber 17 = .ok (.aload_n 0, 1) := by decide +kernel
theorem dX2_readNumber_18 : decode cX2_readNumber 18 = .ok (.getfield 11, 3) := by decide +kernel
theorem dX2_readNumber_21 : decode cX2_readNumber 21 = .ok (.iload 4, 2) := by decide +kernel
theorem dX2_readNumber_23 : decode cX2_readNumber 23 = .ok (.caload, 1) := by decide +kernel
theorem dX2_readNumber_24 : decode cX2_readNumber 24 = .ok (.bipush 48, 2) := by decide +kernel
theorem dX2_readNumber_26 : decode cX2_readNumber 26 = .ok (.isub, 1) := by decide +kernel
theorem dX2_readNumber_27 : decode cX2_readNumber 27 = .ok (.istore 5, 2) := by decide +kernel
theorem dX2_readNumber_29 : decode cX2_readNumber 29 = .ok (.bipush 10, 2) := by decide +kernel
theorem dX2_readNumber_31 : decode cX2_readNumber 31 = .ok (.iload_n 3, 1) := by decide +kernel
theorem dX2_readNumber_32 : decode cX2_readNumber 32 = .ok (.imul, 1) := by decide +kernel
theorem dX2_readNumber_33 : decode cX2_readNumber 33 = .ok (.iload 5, 2) := by decide +kernel
theorem dX2_readNumber_35 : decode cX2_readNumber 35 = .ok (.iadd, 1) := by decide +kernel
theorem dX2_readNumber_36 : decode cX2_readNumber 36 = .ok (.istore 6, 2) := by decide +kernel
theorem dX2_readNumber_38 : decode cX2_readNumber 38 = .ok (.iload 5, 2) := by decide +kernel
theorem dX2_readNumber_40 : decode cX2_readNumber 40 = .ok (.ifCond .lt 41, 3) := by decide +kernel
theorem dX2_readNumber_43 : decode cX2_readNumber 43 = .ok (.iload 5, 2) := by decide +kernel
theorem dX2_readNumber_45 : decode cX2_readNumber 45 = .ok (.bipush 9, 2) := by decide +kernel
theorem dX2_readNumber_47 : decode cX2_readNumber 47 = .ok (.if_icmp .gt 34, 3) := by decide +kernel
theorem dX2_readNumber_50 : decode cX2_readNumber 50 = .ok (.iload 6, 2) := by decide +kernel
theorem dX2_readNumber_52 : decode cX2_readNumber 52 = .ok (.ifCond .eq 29, 3) := by decide +kernel
theorem dX2_readNumber_55 : decode cX2_readNumber 55 = .ok (.iload 6, 2) := by decide +kernel
theorem dX2_readNumber_57 : decode cX2_readNumber 57 = .ok (.iload_n 2, 1) := by decide +kernel
theorem dX2_readNumber_58 : decode cX2_readNumber 58 = .ok (.if_icmp .le 6, 3) := by decide +kernel
theorem dX2_readNumber_61 : decode cX2_readNumber 61 = .ok (.goto 20, 3) := by decide +kernel
theorem dX2_readNumber_64 : decode cX2_readNumber 64 = .ok (.iload 6, 2) := by decide +kernel
theorem dX2_readNumber_66 : decode cX2_readNumber 66 = .ok (.istore_n 3, 1) := by decide +kernel
theorem dX2_readNumber_67 : decode cX2_readNumber 67 = .ok (.aload_n 0, 1) := by decide +kernel
theorem dX2_readNumber_68 : decode cX2_readNumber 68 = .ok (.iload 4, 2) := by decide +kernel
theorem dX2_readNumber_70 : decode cX2_readNumber 70 = .ok (.iconst 1, 1) := by decide +kernel
theorem dX2_readNumber_71 : decode cX2_readNumber 71 = .ok (.iadd, 1) := by decide +kernel
theorem dX2_readNumber_72 : decode cX2_readNumber 72 = .ok (.putfield 19, 3) := by decide +kernel
theorem dX2_readNumber_75 : decode cX2_readNumber 75 = .ok (.iinc 4 1, 3) := by decide +kernel
theorem dX2_readNumber_78 : decode cX2_readNumber 78 = .ok (.goto (-70), 3) := by decide +kernel
theorem dX2_readNumber_81 : decode cX2_readNumber 81 = .ok (.iload_n 3, 1) := by decide +kernel
theorem dX2_readNumber_82 : decode cX2_readNumber 82 = .ok (.iload_n 1, 1) := by decide +kernel
theorem dX2_readNumber_83 : decode cX2_readNumber 83 = .ok (.if_icmp .lt 7, 3) := by decide +kernel
theorem dX2_readNumber_86 : decode cX2_readNumber 86 = .ok (.iload_n 3, 1) := by decide +kernel
theorem dX2_readNumber_87 : decode cX2_readNumber 87 = .ok (.goto 5, 3) := by decide +kernel
theorem dX2_readNumber_90 : decode cX2_readNumber 90 = .ok (.bipush (-4), 2) := by decide +kernel
theorem dX2_readNumber_92 : decode cX2_readNumber 92 = .ok (.ireturn, 1) := by decide +kernel
theorem dX3_init_0 : decode cX3_init 0 = .ok (.aload_n 0, 1) := by decide +kernel
theorem dX3_init_1 : decode cX3_init 1 = .ok (.invokespecial 3, 3) := by decide +kernel
theorem dX3_init_4 : decode cX3_init 4 = .ok (.aload_n 0, 1) := by decide +kernel
theorem dX3_init_5 : decode cX3_init 5 = .ok (.bipush (-4), 2) := by decide +kernel
theorem dX3_init_7 : decode cX3_init 7 = .ok (.putfield 9, 3) := by decide +kernel
theorem dX3_init_10 : decode cX3_init 10 = .ok (.aload_n 0, 1) := by decide +kernel
theorem dX3_init_11 : decode cX3_init 11 = .ok (.bipush (-4), 2) := by decide +kernel
theorem dX3_init_13 : decode cX3_init 13 = .ok (.putfield 15, 3) := by decide +kernel
theorem dX3_init_16 : decode cX3_init 16 = .ok (.aload_n 0, 1) := by decide +kernel
theorem dX3_init_17 : decode cX3_init 17 = .ok (.bipush (-4), 2) := by decide +kernel
theorem dX3_init_19 : decode cX3_init 19 = .ok (.putfield 18, 3) := by decide +kernel
theorem dX3_init_22 : decode cX3_init 22 = .ok (.aload_n 0, 1) := by decide +kernel
theorem dX3_init_23 : decode cX3_init 23 = .ok (.bipush (-4), 2) := by decide +kernel
theorem dX3_init_25 : decode cX3_init 25 = .ok (.putfield 21, 3) := by decide +kernel
theorem dX3_init_28 : decode cX3_init 28 = .ok (.return_, 1) := by decide +kernel
theorem dX3_forget_0 : decode cX3_forget 0 = .ok (.aload_n 0, 1) := by decide +kernel
theorem dX3_forget_1 : decode cX3_forget 1 = .ok (.bipush (-4), 2) := by decide +kernel
theorem dX3_forget_3 : decode cX3_forget 3 = .ok (.bipush (-4), 2) := by decide +kernel
theorem dX3_forget_5 : decode cX3_forget 5 = .ok (.bipush (-4), 2) := by decide +kernel
theorem dX3_forget_7 : decode cX3_forget 7 = .ok (.bipush (-4), 2) := by decide +kernel
theorem dX3_forget_9 : decode cX3_forget 9 = .ok (.invokevirtual 24, 3) := by decide +kernel
theorem dX3_forget_12 : decode cX3_forget 12 = .ok (.return_, 1) := by decide +kernel
theorem dX3_note_0 : decode cX3_note 0 = .ok (.aload_n 0, 1) := by decide +kernel
theorem dX3_note_1 : decode cX3_note 1 = .ok (.iload_n 1, 1) := by decide +kernel
theorem dX3_note_2 : decode cX3_note 2 = .ok (.putfield 9, 3) := by decide +kernel
theorem dX3_note_5 : decode cX3_note 5 = .ok (.aload_n 0, 1) := by decide +kernel
theorem dX3_note_6 : decode cX3_note 6 = .ok (.iload_n 2, 1) := by decide +kernel
theorem dX3_note_7 : decode cX3_note 7 = .ok (.putfield 15, 3) := by decide +kernel
theorem dX3_note_10 : decode cX3_note 10 = .ok (.aload_n 0, 1) := by decide +kernel
theorem dX3_note_11 : decode cX3_note 11 = .ok (.iload_n 3, 1) := by decide +kernel
theorem dX3_note_12 : decode cX3_note 12 = .ok (.putfield 18, 3) := by decide +kernel
theorem dX3_note_15 : decode cX3_note 15 = .ok (.aload_n 0, 1) := by decide +kernel
theorem dX3_note_16 : decode cX3_note 16 = .ok (.iload 4, 2) := by decide +kernel
theorem dX3_note_18 : decode cX3_note 18 = .ok (.putfield 21, 3) := by decide +kernel
theorem dX3_note_21 : decode cX3_note 21 = .ok (.return_, 1) := by decide +kernel
theorem dX3_known_0 : decode cX3_known 0 = .ok (.aload_n 0, 1) := by decide +kernel
theorem dX3_known_1 : decode cX3_known 1 = .ok (.getfield 9, 3) := by decide +kernel
theorem dX3_known_4 : decode cX3_known 4 = .ok (.bipush (-4), 2) := by decide +kernel
theorem dX3_known_6 : decode cX3_known 6 = .ok (.if_icmp .eq 7, 3) := by decide +kernel
theorem dX3_known_9 : decode cX3_known 9 = .ok (.iconst 1, 1) := by decide +kernel
theorem dX3_known_10 : decode cX3_known 10 = .ok (.goto 4, 3) := by decide +kernel
theorem dX3_known_13 : decode cX3_known 13 = .ok (.iconst 0, 1) := by decide +kernel
theorem dX3_known_14 : decode cX3_known 14 = .ok (.ireturn, 1) := by decide +kernel
theorem dX4_init_0 : decode cX4_init 0 = .ok (.aload_n 0, 1) := by decide +kernel
theorem dX4_init_1 : decode cX4_init 1 = .ok (.invokespecial 1, 3) := by decide +kernel
theorem dX4_init_4 : decode cX4_init 4 = .ok (.aload_n 0, 1) := by decide +kernel
theorem dX4_init_5 : decode cX4_init 5 = .ok (.new 7, 3) := by decide +kernel
theorem dX4_init_8 : decode cX4_init 8 = .ok (.dup, 1) := by decide +kernel
theorem dX4_init_9 : decode cX4_init 9 = .ok (.invokespecial 9, 3) := by decide +kernel
theorem dX4_init_12 : decode cX4_init 12 = .ok (.putfield 10, 3) := by decide +kernel
theorem dX4_init_15 : decode cX4_init 15 = .ok (.aload_n 0, 1) := by decide +kernel
theorem dX4_init_16 : decode cX4_init 16 = .ok (.new 7, 3) := by decide +kernel
theorem dX4_init_19 : decode cX4_init 19 = .ok (.dup, 1) := by decide +kernel
theorem dX4_init_20 : decode cX4_init 20 = .ok (.invokespecial 9, 3) := by decide +kernel
theorem dX4_init_23 : decode cX4_init 23 = .ok (.putfield 16, 3) := by decide +kernel
theorem dX4_init_26 : decode cX4_init 26 = .ok (.aload_n 0, 1) := by decide +kernel
theorem dX4_init_27 : decode cX4_init 27 = .ok (.iconst 0, 1) := by decide +kernel
theorem dX4_init_28 : decode cX4_init 28 = .ok (.putfield 19, 3) := by decide +kernel
theorem dX4_init_31 : decode cX4_init 31 = .ok (.aload_n 0, 1) := by decide +kernel
theorem dX4_init_32 : decode cX4_init 32 = .ok (.new 23, 3) := by decide +kernel
theorem dX4_init_35 : decode cX4_init 35 = .ok (.dup, 1) := by decide +kernel
theorem dX4_init_36 : decode cX4_init 36 = .ok (.invokespecial 25, 3) := by decide +kernel
theorem dX4_init_39 : decode cX4_init 39 = .ok (.putfield 26, 3) := by decide +kernel
theorem dX4_init_42 : decode cX4_init 42 = .ok (.aload_n 0, 1) := by decide +kernel
theorem dX4_init_43 : decode cX4_init 43 = .ok (.new 30, 3) := by decide +kernel
theorem dX4_init_46 : decode cX4_init 46 = .ok (.dup, 1) := by decide +kernel
theorem dX4_init_47 : decode cX4_init 47 = .ok (.invokespecial 32, 3) := by decide +kernel
theorem dX4_init_50 : decode cX4_init 50 = .ok (.putfield 33, 3) := by decide +kernel
theorem dX4_init_53 : decode cX4_init 53 = .ok (.aload_n 0, 1) := by decide +kernel
theorem dX4_init_54 : decode cX4_init 54 = .ok (.new 37, 3) := by decide +kernel
theorem dX4_init_57 : decode cX4_init 57 = .ok (.dup, 1) := by decide +kernel
theorem dX4_init_58 : decode cX4_init 58 = .ok (.invokespecial 39, 3) := by decide +kernel
theorem dX4_init_61 : decode cX4_init 61 = .ok (.putfield 40, 3) := by decide +kernel
theorem dX4_init_64 : decode cX4_init 64 = .ok (.return_, 1) := by decide +kernel
theorem dX4_print_0 : decode cX4_print 0 = .ok (.iload_n 1, 1) := by decide +kernel
theorem dX4_print_1 : decode cX4_print 1 = .ok (.invokestatic 44, 3) := by decide +kernel
theorem dX4_print_4 : decode cX4_print 4 = .ok (.ifCond .eq 10, 3) := by decide +kernel
theorem dX4_print_7 : decode cX4_print 7 = .ok (.iload_n 2, 1) := by decide +kernel
theorem dX4_print_8 : decode cX4_print 8 = .ok (.invokestatic 48, 3) := by decide +kernel
theorem dX4_print_11 : decode cX4_print 11 = .ok (.ifCond .ne 5, 3) := by decide +kernel
theorem dX4_print_14 : decode cX4_print 14 = .ok (.iconst (-1), 1) := by decide +kernel
theorem dX4_print_15 : decode cX4_print 15 = .ok (.ireturn, 1) := by decide +kernel
theorem dX4_print_16 : decode cX4_print 16 = .ok (.aload_n 0, 1) := by decide +kernel
theorem dX4_print_17 : decode cX4_print 17 = .ok (.getfield 26, 3) := by decide +kernel
theorem dX4_print_20 : decode cX4_print 20 = .ok (.aload_n 0, 1) := by decide +kernel
theorem dX4_print_21 : decode cX4_print 21 = .ok (.getfield 10, 3) := by decide +kernel
theorem dX4_print_24 : decode cX4_print 24 = .ok (.invokevirtual 51, 3) := by decide +kernel
theorem dX4_print_27 : decode cX4_print 27 = .ok (.aload_n 0, 1) := by decide +kernel
theorem dX4_print_28 : decode cX4_print 28 = .ok (.getfield 10, 3) := by decide +kernel
theorem dX4_print_31 : decode cX4_print 31 = .ok (.iload_n 1, 1) := by decide +kernel
theorem dX4_print_32 : decode cX4_print 32 = .ok (.iload_n 2, 1) := by decide +kernel
theorem dX4_print_33 : decode cX4_print 33 = .ok (.invokevirtual 55, 3) := by decide +kernel
theorem dX4_print_36 : decode cX4_print 36 = .ok (.ireturn, 1) := by decide +kernel
theorem dX4_shake_0 : decode cX4_shake 0 = .ok (.iload_n 1, 1) := by decide +kernel
theorem dX4_shake_1 : decode cX4_shake 1 = .ok (.invokestatic 59, 3) := by decide +kernel
theorem dX4_shake_4 : decode cX4_shake 4 = .ok (.ifCond .ne 5, 3) := by decide +kernel
theorem dX4_shake_7 : decode cX4_shake 7 = .ok (.iconst (-1), 1) := by decide +kernel
theorem dX4_shake_8 : decode cX4_shake 8 = .ok (.ireturn, 1) := by decide +kernel
theorem dX4_shake_9 : decode cX4_shake 9 = .ok (.aload_n 0, 1) := by decide +kernel
theorem dX4_shake_10 : decode cX4_shake 10 = .ok (.getfield 26, 3) := by decide +kernel
theorem dX4_shake_13 : decode cX4_shake 13 = .ok (.aload_n 0, 1) := by decide +kernel
theorem dX4_shake_14 : decode cX4_shake 14 = .ok (.getfield 10, 3) := by decide +kernel
theorem dX4_shake_17 : decode cX4_shake 17 = .ok (.invokevirtual 51, 3) := by decide +kernel
theorem dX4_shake_20 : decode cX4_shake 20 = .ok (.aload_n 0, 1) := by decide +kernel
theorem dX4_shake_21 : decode cX4_shake 21 = .ok (.getfield 10, 3) := by decide +kernel
theorem dX4_shake_24 : decode cX4_shake 24 = .ok (.iload_n 1, 1) := by decide +kernel
theorem dX4_shake_25 : decode cX4_shake 25 = .ok (.invokevirtual 62, 3) := by decide +kernel
theorem dX4_shake_28 : decode cX4_shake 28 = .ok (.ireturn, 1) := by decide +kernel
theorem dX4_move_0 : decode cX4_move 0 = .ok (.iload_n 1, 1) := by decide +kernel
theorem dX4_move_1 : decode cX4_move 1 = .ok (.invokestatic 59, 3) := by decide +kernel
theorem dX4_move_4 : decode cX4_move 4 = .ok (.ifCond .eq 10, 3) := by decide +kernel
theorem dX4_move_7 : decode cX4_move 7 = .ok (.iload_n 2, 1) := by decide +kernel
theorem dX4_move_8 : decode cX4_move 8 = .ok (.invokestatic 44, 3) := by decide +kernel
theorem dX4_move_11 : decode cX4_move 11 = .ok (.ifCond .ne 5, 3) := by decide +kernel
theorem dX4_move_14 : decode cX4_move 14 = .ok (.iconst (-1), 1) := by decide +kernel
theorem dX4_move_15 : decode cX4_move 15 = .ok (.ireturn, 1) := by decide +kernel
theorem dX4_move_16 : decode cX4_move 16 = .ok (.aload_n 0, 1) := by decide +kernel
theorem dX4_move_17 : decode cX4_move 17 = .ok (.getfield 26, 3) := by decide +kernel
theorem dX4_move_20 : decode cX4_move 20 = .ok (.aload_n 0, 1) := by decide +kernel
theorem dX4_move_21 : decode cX4_move 21 = .ok (.getfield 10, 3) := by decide +kernel
theorem dX4_move_24 : decode cX4_move 24 = .ok (.invokevirtual 51, 3) := by decide +kernel
theorem dX4_move_27 : decode cX4_move 27 = .ok (.aload_n 0, 1) := by decide +kernel
theorem dX4_move_28 : decode cX4_move 28 = .ok (.getfield 10, 3) := by decide +kernel
theorem dX4_move_31 : decode cX4_move 31 = .ok (.iload_n 1, 1) := by decide +kernel
theorem dX4_move_32 : decode cX4_move 32 = .ok (.iload_n 2, 1) := by decide +kernel
theorem dX4_move_33 : decode cX4_move 33 = .ok (.invokevirtual 66, 3) := by decide +kernel
theorem dX4_move_36 : decode cX4_move 36 = .ok (.ireturn, 1) := by decide +kernel
theorem dX4_takeOut_0 : decode cX4_takeOut 0 = .ok (.iload_n 1, 1) := by decide +kernel
theorem dX4_takeOut_1 : decode cX4_takeOut 1 = .ok (.invokestatic 44, 3) := by decide +kernel
theorem dX4_takeOut_4 : decode cX4_takeOut 4 = .ok (.ifCond .ne 5, 3) := by decide +kernel
theorem dX4_takeOut_7 : decode cX4_takeOut 7 = .ok (.iconst (-1), 1) := by decide +kernel
theorem dX4_takeOut_8 : decode cX4_takeOut 8 = .ok (.ireturn, 1) := by decide +kernel
theorem dX4_takeOut_9 : decode cX4_takeOut 9 = .ok (.aload_n 0, 1) := by decide +kernel
theorem dX4_takeOut_10 : decode cX4_takeOut 10 = .ok (.getfield 10, 3) := by decide +kernel
theorem dX4_takeOut_13 : decode cX4_takeOut 13 = .ok (.getfield 69, 3) := by decide +kernel
theorem dX4_takeOut_16 : decode cX4_takeOut 16 = .ok (.iload_n 1, 1) := by decide +kernel
theorem dX4_takeOut_17 : decode cX4_takeOut 17 = .ok (.iaload, 1) := by decide +kernel
theorem dX4_takeOut_18 : decode cX4_takeOut 18 = .ok (.istore_n 2, 1) := by decide +kernel
theorem dX4_takeOut_19 : decode cX4_takeOut 19 = .ok (.iload_n 2, 1) := by decide +kernel
theorem dX4_takeOut_20 : decode cX4_takeOut 20 = .ok (.invokestatic 59, 3) := by decide +kernel
theorem dX4_takeOut_23 : decode cX4_takeOut 23 = .ok (.ifCond .ne 6, 3) := by decide +kernel
theorem dX4_takeOut_26 : decode cX4_takeOut 26 = .ok (.bipush (-2), 2) := by decide +kernel
theorem dX4_takeOut_28 : decode cX4_takeOut 28 = .ok (.ireturn, 1) := by decide +kernel
theorem dX4_takeOut_29 : decode cX4_takeOut 29 = .ok (.aload_n 0, 1) := by decide +kernel
theorem dX4_takeOut_30 : decode cX4_takeOut 30 = .ok (.getfield 26, 3) := by decide +kernel
theorem dX4_takeOut_33 : decode cX4_takeOut 33 = .ok (.aload_n 0, 1) := by decide +kernel
theorem dX4_takeOut_34 : decode cX4_takeOut 34 = .ok (.getfield 10, 3) := by decide +kernel
theorem dX4_takeOut_37 : decode cX4_takeOut 37 = .ok (.invokevirtual 51, 3) := by decide +kernel
theorem dX4_takeOut_40 : decode cX4_takeOut 40 = .ok (.aload_n 0, 1) := by decide +kernel
theorem dX4_takeOut_41 : decode cX4_takeOut 41 = .ok (.getfield 10, 3) := by decide +kernel
theorem dX4_takeOut_44 : decode cX4_takeOut 44 = .ok (.iload_n 1, 1) := by decide +kernel
theorem dX4_takeOut_45 : decode cX4_takeOut 45 = .ok (.invokevirtual 73, 3) := by decide +kernel
theorem dX4_takeOut_48 : decode cX4_takeOut 48 = .ok (.iload_n 2, 1) := by decide +kernel
theorem dX4_takeOut_49 : decode cX4_takeOut 49 = .ok (.ireturn, 1) := by decide +kernel
theorem dX4_refill_0 : decode cX4_refill 0 = .ok (.iload_n 1, 1) := by decide +kernel
theorem dX4_refill_1 : decode cX4_refill 1 = .ok (.invokestatic 59, 3) := by decide +kernel
theorem dX4_refill_4 : decode cX4_refill 4 = .ok (.ifCond .eq 15, 3) := by decide +kernel
theorem dX4_refill_7 : decode cX4_refill 7 = .ok (.iload_n 2, 1) := by decide +kernel
theorem dX4_refill_8 : decode cX4_refill 8 = .ok (.iconst 1, 1) := by decide +kernel
theorem dX4_refill_9 : decode cX4_refill 9 = .ok (.if_icmp .lt 10, 3) := by decide +kernel
theorem dX4_refill_12 : decode cX4_refill 12 = .ok (.iload_n 2, 1) := by decide +kernel
theorem dX4_refill_13 : decode cX4_refill 13 = .ok (.sipush 6000, 3) := by decide +kernel
theorem dX4_refill_16 : decode cX4_refill 16 = .ok (.if_icmp .le 5, 3) := by decide +kernel
theorem dX4_refill_19 : decode cX4_refill 19 = .ok (.iconst (-1), 1) := by decide +kernel
theorem dX4_refill_20 : decode cX4_refill 20 = .ok (.ireturn, 1) := by decide +kernel
theorem dX4_refill_21 : decode cX4_refill 21 = .ok (.aload_n 0, 1) := by decide +kernel
theorem dX4_refill_22 : decode cX4_refill 22 = .ok (.getfield 10, 3) := by decide +kernel
theorem dX4_refill_25 : decode cX4_refill 25 = .ok (.iload_n 1, 1) := by decide +kernel
theorem dX4_refill_26 : decode cX4_refill 26 = .ok (.invokevirtual 77, 3) := by decide +kernel
theorem dX4_refill_29 : decode cX4_refill 29 = .ok (.invokestatic 44, 3) := by decide +kernel
theorem dX4_refill_32 : decode cX4_refill 32 = .ok (.ifCond .eq 6, 3) := by decide +kernel
theorem dX4_refill_35 : decode cX4_refill 35 = .ok (.bipush (-2), 2) := by decide +kernel
theorem dX4_refill_37 : decode cX4_refill 37 = .ok (.ireturn, 1) := by decide +kernel
theorem dX4_refill_38 : decode cX4_refill 38 = .ok (.aload_n 0, 1) := by decide +kernel
theorem dX4_refill_39 : decode cX4_refill 39 = .ok (.getfield 10, 3) := by decide +kernel
theorem dX4_refill_42 : decode cX4_refill 42 = .ok (.iload_n 1, 1) := by decide +kernel
theorem dX4_refill_43 : decode cX4_refill 43 = .ok (.invokevirtual 80, 3) := by decide +kernel
theorem dX4_refill_46 : decode cX4_refill 46 = .ok (.sipush 6000, 3) := by decide +kernel
theorem dX4_refill_49 : decode cX4_refill 49 = .ok (.if_icmp .lt 6, 3) := by decide +kernel
theorem dX4_refill_52 : decode cX4_refill 52 = .ok (.bipush (-3), 2) := by decide +kernel
theorem dX4_refill_54 : decode cX4_refill 54 = .ok (.ireturn, 1) := by decide +kernel
theorem dX4_refill_55 : decode cX4_refill 55 = .ok (.aload_n 0, 1) := by decide +kernel
theorem dX4_refill_56 : decode cX4_refill 56 = .ok (.getfield 26, 3) := by decide +kernel
theorem dX4_refill_59 : decode cX4_refill 59 = .ok (.aload_n 0, 1) := by decide +kernel
theorem dX4_refill_60 : decode cX4_refill 60 = .ok (.getfield 10, 3) := by decide +kernel
theorem dX4_refill_63 : decode cX4_refill 63 = .ok (.invokevirtual 51, 3) := by decide +kernel
theorem dX4_refill_66 : decode cX4_refill 66 = .ok (.aload_n 0, 1) := by decide +kernel
theorem dX4_refill_67 : decode cX4_refill 67 = .ok (.getfield 10, 3) := by decide +kernel
theorem dX4_refill_70 : decode cX4_refill 70 = .ok (.iload_n 1, 1) := by decide +kernel
theorem dX4_refill_71 : decode cX4_refill 71 = .ok (.iload_n 2, 1) := by decide +kernel
theorem dX4_refill_72 : decode cX4_refill 72 = .ok (.invokevirtual 83, 3) := by decide +kernel
theorem dX4_refill_75 : decode cX4_refill 75 = .ok (.ireturn, 1) := by decide +kernel
theorem dX4_set_0 : decode cX4_set 0 = .ok (.iload_n 1, 1) := by decide +kernel
theorem dX4_set_1 : decode cX4_set 1 = .ok (.ifCond .lt 8, 3) := by decide +kernel
theorem dX4_set_4 : decode cX4_set 4 = .ok (.iload_n 1, 1) := by decide +kernel
theorem dX4_set_5 : decode cX4_set 5 = .ok (.iconst 4, 1) := by decide +kernel
theorem dX4_set_6 : decode cX4_set 6 = .ok (.if_icmp .lt 5, 3) := by decide +kernel
theorem dX4_set_9 : decode cX4_set 9 = .ok (.iconst (-1), 1) := by decide +kernel
theorem dX4_set_10 : decode cX4_set 10 = .ok (.ireturn, 1) := by decide +kernel
theorem dX4_set_11 : decode cX4_set 11 = .ok (.iload_n 2, 1) := by decide +kernel
theorem dX4_set_12 : decode cX4_set 12 = .ok (.getstatic 86, 3) := by decide +kernel
theorem dX4_set_15 : decode cX4_set 15 = .ok (.iload_n 1, 1) := by decide +kernel
theorem dX4_set_16 : decode cX4_set 16 = .ok (.iaload, 1) := by decide +kernel
theorem dX4_set_17 : decode cX4_set 17 = .ok (.if_icmp .lt 12, 3) := by decide +kernel
theorem dX4_set_20 : decode cX4_set 20 = .ok (.iload_n 2, 1) := by decide +kernel
theorem dX4_set_21 : decode cX4_set 21 = .ok (.getstatic 89, 3) := by decide +kernel
theorem dX4_set_24 : decode cX4_set 24 = .ok (.iload_n 1, 1) := by decide +kernel
theorem dX4_set_25 : decode cX4_set 25 = .ok (.iaload, 1) := by decide +kernel
theorem dX4_set_26 : decode cX4_set 26 = .ok (.if_icmp .le 5, 3) := by decide +kernel
theorem dX4_set_29 : decode cX4_set 29 = .ok (.iconst (-1), 1) := by decide +kernel
theorem dX4_set_30 : decode cX4_set 30 = .ok (.ireturn, 1) := by decide +kernel
theorem dX4_set_31 : decode cX4_set 31 = .ok (.aload_n 0, 1) := by decide +kernel
theorem dX4_set_32 : decode cX4_set 32 = .ok (.getfield 26, 3) := by decide +kernel
theorem dX4_set_35 : decode cX4_set 35 = .ok (.aload_n 0, 1) := by decide +kernel
theorem dX4_set_36 : decode cX4_set 36 = .ok (.getfield 10, 3) := by decide +kernel
theorem dX4_set_39 : decode cX4_set 39 = .ok (.invokevirtual 51, 3) := by decide +kernel
theorem dX4_set_42 : decode cX4_set 42 = .ok (.aload_n 0, 1) := by decide +kernel
theorem dX4_set_43 : decode cX4_set 43 = .ok (.getfield 10, 3) := by decide +kernel
theorem dX4_set_46 : decode cX4_set 46 = .ok (.getfield 92, 3) := by decide +kernel
theorem dX4_set_49 : decode cX4_set 49 = .ok (.iload_n 1, 1) := by decide +kernel
theorem dX4_set_50 : decode cX4_set 50 = .ok (.iaload, 1) := by decide +kernel
theorem dX4_set_51 : decode cX4_set 51 = .ok (.istore_n 3, 1) := by decide +kernel
theorem dX4_set_52 : decode cX4_set 52 = .ok (.aload_n 0, 1) := by decide +kernel
theorem dX4_set_53 : decode cX4_set 53 = .ok (.getfield 10, 3) := by decide +kernel
theorem dX4_set_56 : decode cX4_set 56 = .ok (.getfield 92, 3) := by decide +kernel
theorem dX4_set_59 : decode cX4_set 59 = .ok (.iload_n 1, 1) := by decide +kernel
theorem dX4_set_60 : decode cX4_set 60 = .ok (.iload_n 2, 1) := by decide +kernel
theorem dX4_set_61 : decode cX4_set 61 = .ok (.iastore, 1) := by decide +kernel
theorem dX4_set_62 : decode cX4_set 62 = .ok (.iload_n 3, 1) := by decide +kernel
theorem dX4_set_63 : decode cX4_set 63 = .ok (.ireturn, 1) := by decide +kernel
theorem dX4_append_0 : decode cX4_append 0 = .ok (.iload_n 1, 1) := by decide +kernel
theorem dX4_append_1 : decode cX4_append 1 = .ok (.bipush 33, 2) := by decide +kernel
theorem dX4_append_3 : decode cX4_append 3 = .ok (.if_icmp .lt 9, 3) := by decide +kernel
theorem dX4_append_6 : decode cX4_append 6 = .ok (.iload_n 1, 1) := by decide +kernel
theorem dX4_append_7 : decode cX4_append 7 = .ok (.bipush 126, 2) := by decide +kernel
theorem dX4_append_9 : decode cX4_append 9 = .ok (.if_icmp .le 5, 3) := by decide +kernel
theorem dX4_append_12 : decode cX4_append 12 = .ok (.iconst (-1), 1) := by decide +kernel
theorem dX4_append_13 : decode cX4_append 13 = .ok (.ireturn, 1) := by decide +kernel
theorem dX4_append_14 : decode cX4_append 14 = .ok (.aload_n 0, 1) := by decide +kernel
theorem dX4_append_15 : decode cX4_append 15 = .ok (.getfield 33, 3) := by decide +kernel
theorem dX4_append_18 : decode cX4_append 18 = .ok (.invokevirtual 95, 3) := by decide +kernel
theorem dX4_append_21 : decode cX4_append 21 = .ok (.ifCond .ne 6, 3) := by decide +kernel
theorem dX4_append_24 : decode cX4_append 24 = .ok (.bipush (-3), 2) := by decide +kernel
theorem dX4_append_26 : decode cX4_append 26 = .ok (.ireturn, 1) := by decide +kernel
theorem dX4_append_27 : decode cX4_append 27 = .ok (.aload_n 0, 1) := by decide +kernel
theorem dX4_append_28 : decode cX4_append 28 = .ok (.getfield 33, 3) := by decide +kernel
theorem dX4_append_31 : decode cX4_append 31 = .ok (.iload_n 1, 1) := by decide +kernel
theorem dX4_append_32 : decode cX4_append 32 = .ok (.i2c, 1) := by decide +kernel
theorem dX4_append_33 : decode cX4_append 33 = .ok (.invokevirtual 99, 3) := by decide +kernel
theorem dX4_append_36 : decode cX4_append 36 = .ok (.aload_n 0, 1) := by decide +kernel
theorem dX4_append_37 : decode cX4_append 37 = .ok (.getfield 33, 3) := by decide +kernel
theorem dX4_append_40 : decode cX4_append 40 = .ok (.getfield 103, 3) := by decide +kernel
theorem dX4_append_43 : decode cX4_append 43 = .ok (.ireturn, 1) := by decide +kernel
theorem dX4_clear_0 : decode cX4_clear 0 = .ok (.aload_n 0, 1) := by decide +kernel
theorem dX4_clear_1 : decode cX4_clear 1 = .ok (.getfield 33, 3) := by decide +kernel
theorem dX4_clear_4 : decode cX4_clear 4 = .ok (.getfield 103, 3) := by decide +kernel
theorem dX4_clear_7 : decode cX4_clear 7 = .ok (.istore_n 1, 1) := by decide +kernel
theorem dX4_clear_8 : decode cX4_clear 8 = .ok (.aload_n 0, 1) := by decide +kernel
theorem dX4_clear_9 : decode cX4_clear 9 = .ok (.getfield 33, 3) := by decide +kernel
theorem dX4_clear_12 : decode cX4_clear 12 = .ok (.invokevirtual 107, 3) := by decide +kernel
theorem dX4_clear_15 : decode cX4_clear 15 = .ok (.iload_n 1, 1) := by decide +kernel
theorem dX4_clear_16 : decode cX4_clear 16 = .ok (.ireturn, 1) := by decide +kernel
theorem dX4_fault_0 : decode cX4_fault 0 = .ok (.aload_n 0, 1) := by decide +kernel
theorem dX4_fault_1 : decode cX4_fault 1 = .ok (.getfield 33, 3) := by decide +kernel
theorem dX4_fault_4 : decode cX4_fault 4 = .ok (.invokevirtual 110, 3) := by decide +kernel
theorem dX4_fault_7 : decode cX4_fault 7 = .ok (.ireturn, 1) := by decide +kernel
theorem dX4_run_0 : decode cX4_run 0 = .ok (.aload_n 0, 1) := by decide +kernel
theorem dX4_run_1 : decode cX4_run 1 = .ok (.getfield 33, 3) := by decide +kernel
theorem dX4_run_4 : decode cX4_run 4 = .ok (.invokevirtual 110, 3) := by decide +kernel
theorem dX4_run_7 : decode cX4_run 7 = .ok (.bipush (-4), 2) := by decide +kernel
theorem dX4_run_9 : decode cX4_run 9 = .ok (.if_icmp .eq 6, 3) := by decide +kernel
theorem dX4_run_12 : decode cX4_run 12 = .ok (.bipush (-2), 2) := by decide +kernel
theorem dX4_run_14 : decode cX4_run 14 = .ok (.ireturn, 1) := by decide +kernel
theorem dX4_run_15 : decode cX4_run 15 = .ok (.aload_n 0, 1) := by decide +kernel
theorem dX4_run_16 : decode cX4_run 16 = .ok (.getfield 26, 3) := by decide +kernel
theorem dX4_run_19 : decode cX4_run 19 = .ok (.aload_n 0, 1) := by decide +kernel
theorem dX4_run_20 : decode cX4_run 20 = .ok (.getfield 10, 3) := by decide +kernel
theorem dX4_run_23 : decode cX4_run 23 = .ok (.invokevirtual 51, 3) := by decide +kernel
theorem dX4_run_26 : decode cX4_run 26 = .ok (.aload_n 0, 1) := by decide +kernel
theorem dX4_run_27 : decode cX4_run 27 = .ok (.getfield 40, 3) := by decide +kernel
theorem dX4_run_30 : decode cX4_run 30 = .ok (.invokevirtual 114, 3) := by decide +kernel
theorem dX4_run_33 : decode cX4_run 33 = .ok (.iconst 0, 1) := by decide +kernel
theorem dX4_run_34 : decode cX4_run 34 = .ok (.istore_n 1, 1) := by decide +kernel
theorem dX4_run_35 : decode cX4_run 35 = .ok (.iconst 0, 1) := by decide +kernel
theorem dX4_run_36 : decode cX4_run 36 = .ok (.istore_n 2, 1) := by decide +kernel
theorem dX4_run_37 : decode cX4_run 37 = .ok (.iload_n 2, 1) := by decide +kernel
theorem dX4_run_38 : decode cX4_run 38 = .ok (.aload_n 0, 1) := by decide +kernel
theorem dX4_run_39 : decode cX4_run 39 = .ok (.getfield 33, 3) := by decide +kernel
theorem dX4_run_42 : decode cX4_run 42 = .ok (.getfield 117, 3) := by decide +kernel
theorem dX4_run_45 : decode cX4_run 45 = .ok (.if_icmp .ge 27, 3) := by decide +kernel
theorem dX4_run_48 : decode cX4_run 48 = .ok (.aload_n 0, 1) := by decide +kernel
theorem dX4_run_49 : decode cX4_run 49 = .ok (.getfield 40, 3) := by decide +kernel
theorem dX4_run_52 : decode cX4_run 52 = .ok (.invokevirtual 120, 3) := by decide +kernel
theorem dX4_run_55 : decode cX4_run 55 = .ok (.ifCond .ne 17, 3) := by decide +kernel
theorem dX4_run_58 : decode cX4_run 58 = .ok (.iload_n 1, 1) := by decide +kernel
theorem dX4_run_59 : decode cX4_run 59 = .ok (.aload_n 0, 1) := by decide +kernel
theorem dX4_run_60 : decode cX4_run 60 = .ok (.iload_n 2, 1) := by decide +kernel
theorem dX4_run_61 : decode cX4_run 61 = .ok (.invokevirtual 123, 3) := by decide +kernel
theorem dX4_run_64 : decode cX4_run 64 = .ok (.iadd, 1) := by decide +kernel
theorem dX4_run_65 : decode cX4_run 65 = .ok (.istore_n 1, 1) := by decide +kernel
theorem dX4_run_66 : decode cX4_run 66 = .ok (.iinc 2 1, 3) := by decide +kernel
theorem dX4_run_69 : decode cX4_run 69 = .ok (.goto (-32), 3) := by decide +kernel
theorem dX4_run_72 : decode cX4_run 72 = .ok (.aload_n 0, 1) := by decide +kernel
theorem dX4_run_73 : decode cX4_run 73 = .ok (.getfield 33, 3) := by decide +kernel
theorem dX4_run_76 : decode cX4_run 76 = .ok (.invokevirtual 107, 3) := by decide +kernel
theorem dX4_run_79 : decode cX4_run 79 = .ok (.iload_n 1, 1) := by decide +kernel
theorem dX4_run_80 : decode cX4_run 80 = .ok (.ireturn, 1) := by decide +kernel
theorem dX4_why_0 : decode cX4_why 0 = .ok (.iload_n 1, 1) := by decide +kernel
theorem dX4_why_1 : decode cX4_why 1 = .ok (.tableswitch 63 0 3 #[31, 39, 47, 55], 31) := by decide +kernel
theorem dX4_why_32 : decode cX4_why 32 = .ok (.aload_n 0, 1) := by decide +kernel
theorem dX4_why_33 : decode cX4_why 33 = .ok (.getfield 40, 3) := by decide +kernel
theorem dX4_why_36 : decode cX4_why 36 = .ok (.getfield 126, 3) := by decide +kernel
theorem dX4_why_39 : decode cX4_why 39 = .ok (.ireturn, 1) := by decide +kernel
theorem dX4_why_40 : decode cX4_why 40 = .ok (.aload_n 0, 1) := by decide +kernel
theorem dX4_why_41 : decode cX4_why 41 = .ok (.getfield 40, 3) := by decide +kernel
theorem dX4_why_44 : decode cX4_why 44 = .ok (.getfield 129, 3) := by decide +kernel
theorem dX4_why_47 : decode cX4_why 47 = .ok (.ireturn, 1) := by decide +kernel
theorem dX4_why_48 : decode cX4_why 48 = .ok (.aload_n 0, 1) := by decide +kernel
theorem dX4_why_49 : decode cX4_why 49 = .ok (.getfield 40, 3) := by decide +kernel
theorem dX4_why_52 : decode cX4_why 52 = .ok (.getfield 132, 3) := by decide +kernel
theorem dX4_why_55 : decode cX4_why 55 = .ok (.ireturn, 1) := by decide +kernel
theorem dX4_why_56 : decode cX4_why 56 = .ok (.aload_n 0, 1) := by decide +kernel
theorem dX4_why_57 : decode cX4_why 57 = .ok (.getfield 40, 3) := by decide +kernel
theorem dX4_why_60 : decode cX4_why 60 = .ok (.getfield 135, 3) := by decide +kernel
theorem dX4_why_63 : decode cX4_why 63 = .ok (.ireturn, 1) := by decide +kernel
theorem dX4_why_64 : decode cX4_why 64 = .ok (.iconst (-1), 1) := by decide +kernel
theorem dX4_why_65 : decode cX4_why 65 = .ok (.ireturn, 1) := by decide +kernel
theorem dX4_cup_0 : decode cX4_cup 0 = .ok (.iload_n 1, 1) := by decide +kernel
theorem dX4_cup_1 : decode cX4_cup 1 = .ok (.invokestatic 59, 3) := by decide +kernel
theorem dX4_cup_4 : decode cX4_cup 4 = .ok (.ifCond .ne 5, 3) := by decide +kernel
theorem dX4_cup_7 : decode cX4_cup 7 = .ok (.iconst (-1), 1) := by decide +kernel
theorem dX4_cup_8 : decode cX4_cup 8 = .ok (.ireturn, 1) := by decide +kernel
theorem dX4_cup_9 : decode cX4_cup 9 = .ok (.iload_n 2, 1) := by decide +kernel
theorem dX4_cup_10 : decode cX4_cup 10 = .ok (.tableswitch 134 0 7 #[46, 56, 66, 76, 86, 95, 104, 113], 46) := by decide +kernel
theorem dX4_cup_56 : decode cX4_cup 56 = .ok (.aload_n 0, 1) := by decide +kernel
theorem dX4_cup_57 : decode cX4_cup 57 = .ok (.getfield 10, 3) := by decide +kernel
theorem dX4_cup_60 : decode cX4_cup 60 = .ok (.getfield 138, 3) := by decide +kernel
theorem dX4_cup_63 : decode cX4_cup 63 = .ok (.iload_n 1, 1) := by decide +kernel
theorem dX4_cup_64 : decode cX4_cup 64 = .ok (.iaload, 1) := by decide +kernel
theorem dX4_cup_65 : decode cX4_cup 65 = .ok (.ireturn, 1) := by decide +kernel
theorem dX4_cup_66 : decode cX4_cup 66 = .ok (.aload_n 0, 1) := by decide +kernel
theorem dX4_cup_67 : decode cX4_cup 67 = .ok (.getfield 10, 3) := by decide +kernel
theorem dX4_cup_70 : decode cX4_cup 70 = .ok (.getfield 141, 3) := by decide +kernel
theorem dX4_cup_73 : decode cX4_cup 73 = .ok (.iload_n 1, 1) := by decide +kernel
theorem dX4_cup_74 : decode cX4_cup 74 = .ok (.iaload, 1) := by decide +kernel
theorem dX4_cup_75 : decode cX4_cup 75 = .ok (.ireturn, 1) := by decide +kernel
theorem dX4_cup_76 : decode cX4_cup 76 = .ok (.aload_n 0, 1) := by decide +kernel
theorem dX4_cup_77 : decode cX4_cup 77 = .ok (.getfield 10, 3) := by decide +kernel
theorem dX4_cup_80 : decode cX4_cup 80 = .ok (.getfield 144, 3) := by decide +kernel
theorem dX4_cup_83 : decode cX4_cup 83 = .ok (.iload_n 1, 1) := by decide +kernel
theorem dX4_cup_84 : decode cX4_cup 84 = .ok (.iaload, 1) := by decide +kernel
theorem dX4_cup_85 : decode cX4_cup 85 = .ok (.ireturn, 1) := by decide +kernel
theorem dX4_cup_86 : decode cX4_cup 86 = .ok (.aload_n 0, 1) := by decide +kernel
theorem dX4_cup_87 : decode cX4_cup 87 = .ok (.getfield 10, 3) := by decide +kernel
theorem dX4_cup_90 : decode cX4_cup 90 = .ok (.getfield 147, 3) := by decide +kernel
theorem dX4_cup_93 : decode cX4_cup 93 = .ok (.iload_n 1, 1) := by decide +kernel
theorem dX4_cup_94 : decode cX4_cup 94 = .ok (.iaload, 1) := by decide +kernel
theorem dX4_cup_95 : decode cX4_cup 95 = .ok (.ireturn, 1) := by decide +kernel
theorem dX4_cup_96 : decode cX4_cup 96 = .ok (.aload_n 0, 1) := by decide +kernel
theorem dX4_cup_97 : decode cX4_cup 97 = .ok (.getfield 10, 3) := by decide +kernel
theorem dX4_cup_100 : decode cX4_cup 100 = .ok (.iload_n 1, 1) := by decide +kernel
theorem dX4_cup_101 : decode cX4_cup 101 = .ok (.invokevirtual 77, 3) := by decide +kernel
theorem dX4_cup_104 : decode cX4_cup 104 = .ok (.ireturn, 1) := by decide +kernel
theorem dX4_cup_105 : decode cX4_cup 105 = .ok (.aload_n 0, 1) := by decide +kernel
theorem dX4_cup_106 : decode cX4_cup 106 = .ok (.getfield 10, 3) := by decide +kernel
theorem dX4_cup_109 : decode cX4_cup 109 = .ok (.iload_n 1, 1) := by decide +kernel
theorem dX4_cup_110 : decode cX4_cup 110 = .ok (.invokevirtual 150, 3) := by decide +kernel
theorem dX4_cup_113 : decode cX4_cup 113 = .ok (.ireturn, 1) := by decide +kernel
theorem dX4_cup_114 : decode cX4_cup 114 = .ok (.aload_n 0, 1) := by decide +kernel
theorem dX4_cup_115 : decode cX4_cup 115 = .ok (.getfield 10, 3) := by decide +kernel
theorem dX4_cup_118 : decode cX4_cup 118 = .ok (.iload_n 1, 1) := by decide +kernel
theorem dX4_cup_119 : decode cX4_cup 119 = .ok (.invokevirtual 153, 3) := by decide +kernel
theorem dX4_cup_122 : decode cX4_cup 122 = .ok (.ireturn, 1) := by decide +kernel
theorem dX4_cup_123 : decode cX4_cup 123 = .ok (.aload_n 0, 1) := by decide +kernel
theorem dX4_cup_124 : decode cX4_cup 124 = .ok (.getfield 10, 3) := by decide +kernel
theorem dX4_cup_127 : decode cX4_cup 127 = .ok (.iload_n 1, 1) := by decide +kernel
theorem dX4_cup_128 : decode cX4_cup 128 = .ok (.invokevirtual 153, 3) := by decide +kernel
theorem dX4_cup_131 : decode cX4_cup 131 = .ok (.aload_n 0, 1) := by decide +kernel
theorem dX4_cup_132 : decode cX4_cup 132 = .ok (.getfield 10, 3) := by decide +kernel
theorem dX4_cup_135 : decode cX4_cup 135 = .ok (.iload_n 1, 1) := by decide +kernel
theorem dX4_cup_136 : decode cX4_cup 136 = .ok (.invokevirtual 80, 3) := by decide +kernel
theorem dX4_cup_139 : decode cX4_cup 139 = .ok (.isub, 1) := by decide +kernel
theorem dX4_cup_140 : decode cX4_cup 140 = .ok (.ldc 156, 2) := by decide +kernel
theorem dX4_cup_142 : decode cX4_cup 142 = .ok (.iadd, 1) := by decide +kernel
theorem dX4_cup_143 : decode cX4_cup 143 = .ok (.ireturn, 1) := by decide +kernel
theorem dX4_cup_144 : decode cX4_cup 144 = .ok (.iconst (-1), 1) := by decide +kernel
theorem dX4_cup_145 : decode cX4_cup 145 = .ok (.ireturn, 1) := by decide +kernel
theorem dX4_printer_0 : decode cX4_printer 0 = .ok (.iload_n 1, 1) := by decide +kernel
theorem dX4_printer_1 : decode cX4_printer 1 = .ok (.invokestatic 44, 3) := by decide +kernel
theorem dX4_printer_4 : decode cX4_printer 4 = .ok (.ifCond .ne 5, 3) := by decide +kernel
theorem dX4_printer_7 : decode cX4_printer 7 = .ok (.iconst (-1), 1) := by decide +kernel
theorem dX4_printer_8 : decode cX4_printer 8 = .ok (.ireturn, 1) := by decide +kernel
theorem dX4_printer_9 : decode cX4_printer 9 = .ok (.iload_n 2, 1) := by decide +kernel
theorem dX4_printer_10 : decode cX4_printer 10 = .ok (.tableswitch 98 0 5 #[38, 48, 58, 68, 78, 88], 38) := by decide +kernel
theorem dX4_printer_48 : decode cX4_printer 48 = .ok (.aload_n 0, 1) := by decide +kernel
theorem dX4_printer_49 : decode cX4_printer 49 = .ok (.getfield 10, 3) := by decide +kernel
theorem dX4_printer_52 : decode cX4_printer 52 = .ok (.getfield 69, 3) := by decide +kernel
theorem dX4_printer_55 : decode cX4_printer 55 = .ok (.iload_n 1, 1) := by decide +kernel
theorem dX4_printer_56 : decode cX4_printer 56 = .ok (.iaload, 1) := by decide +kernel
theorem dX4_printer_57 : decode cX4_printer 57 = .ok (.ireturn, 1) := by decide +kernel
theorem dX4_printer_58 : decode cX4_printer 58 = .ok (.aload_n 0, 1) := by decide +kernel
theorem dX4_printer_59 : decode cX4_printer 59 = .ok (.getfield 10, 3) := by decide +kernel
theorem dX4_printer_62 : decode cX4_printer 62 = .ok (.getfield 157, 3) := by decide +kernel
theorem dX4_printer_65 : decode cX4_printer 65 = .ok (.iload_n 1, 1) := by decide +kernel
theorem dX4_printer_66 : decode cX4_printer 66 = .ok (.iaload, 1) := by decide +kernel
theorem dX4_printer_67 : decode cX4_printer 67 = .ok (.ireturn, 1) := by decide +kernel
theorem dX4_printer_68 : decode cX4_printer 68 = .ok (.aload_n 0, 1) := by decide +kernel
theorem dX4_printer_69 : decode cX4_printer 69 = .ok (.getfield 10, 3) := by decide +kernel
theorem dX4_printer_72 : decode cX4_printer 72 = .ok (.getfield 160, 3) := by decide +kernel
theorem dX4_printer_75 : decode cX4_printer 75 = .ok (.iload_n 1, 1) := by decide +kernel
theorem dX4_printer_76 : decode cX4_printer 76 = .ok (.iaload, 1) := by decide +kernel
theorem dX4_printer_77 : decode cX4_printer 77 = .ok (.ireturn, 1) := by decide +kernel
theorem dX4_printer_78 : decode cX4_printer 78 = .ok (.aload_n 0, 1) := by decide +kernel
theorem dX4_printer_79 : decode cX4_printer 79 = .ok (.getfield 10, 3) := by decide +kernel
theorem dX4_printer_82 : decode cX4_printer 82 = .ok (.getfield 163, 3) := by decide +kernel
theorem dX4_printer_85 : decode cX4_printer 85 = .ok (.iload_n 1, 1) := by decide +kernel
theorem dX4_printer_86 : decode cX4_printer 86 = .ok (.iaload, 1) := by decide +kernel
theorem dX4_printer_87 : decode cX4_printer 87 = .ok (.ireturn, 1) := by decide +kernel
theorem dX4_printer_88 : decode cX4_printer 88 = .ok (.aload_n 0, 1) := by decide +kernel
theorem dX4_printer_89 : decode cX4_printer 89 = .ok (.getfield 10, 3) := by decide +kernel
theorem dX4_printer_92 : decode cX4_printer 92 = .ok (.getfield 166, 3) := by decide +kernel
theorem dX4_printer_95 : decode cX4_printer 95 = .ok (.iload_n 1, 1) := by decide +kernel
theorem dX4_printer_96 : decode cX4_printer 96 = .ok (.iaload, 1) := by decide +kernel
theorem dX4_printer_97 : decode cX4_printer 97 = .ok (.ireturn, 1) := by decide +kernel
theorem dX4_printer_98 : decode cX4_printer 98 = .ok (.aload_n 0, 1) := by decide +kernel
theorem dX4_printer_99 : decode cX4_printer 99 = .ok (.getfield 10, 3) := by decide +kernel
theorem dX4_printer_102 : decode cX4_printer 102 = .ok (.getfield 169, 3) := by decide +kernel
theorem dX4_printer_105 : decode cX4_printer 105 = .ok (.iload_n 1, 1) := by decide +kernel
theorem dX4_printer_106 : decode cX4_printer 106 = .ok (.iaload, 1) := by decide +kernel
theorem dX4_printer_107 : decode cX4_printer 107 = .ok (.ireturn, 1) := by decide +kernel
theorem dX4_printer_108 : decode cX4_printer 108 = .ok (.iconst (-1), 1) := by decide +kernel
theorem dX4_printer_109 : decode cX4_printer 109 = .ok (.ireturn, 1) := by decide +kernel
theorem dX4_needs_0 : decode cX4_needs 0 = .ok (.iload_n 1, 1) := by decide +kernel
theorem dX4_needs_1 : decode cX4_needs 1 = .ok (.invokestatic 59, 3) := by decide +kernel
theorem dX4_needs_4 : decode cX4_needs 4 = .ok (.ifCond .eq 10, 3) := by decide +kernel
theorem dX4_needs_7 : decode cX4_needs 7 = .ok (.iload_n 2, 1) := by decide +kernel
theorem dX4_needs_8 : decode cX4_needs 8 = .ok (.invokestatic 48, 3) := by decide +kernel
theorem dX4_needs_11 : decode cX4_needs 11 = .ok (.ifCond .ne 5, 3) := by decide +kernel
theorem dX4_needs_14 : decode cX4_needs 14 = .ok (.iconst (-1), 1) := by decide +kernel
theorem dX4_needs_15 : decode cX4_needs 15 = .ok (.ireturn, 1) := by decide +kernel
theorem dX4_needs_16 : decode cX4_needs 16 = .ok (.iload_n 3, 1) := by decide +kernel
theorem dX4_needs_17 : decode cX4_needs 17 = .ok (.lookupswitch 65 #[(0, 27), (1, 46)], 27) := by decide +kernel
theorem dX4_needs_44 : decode cX4_needs 44 = .ok (.aload_n 0, 1) := by decide +kernel
theorem dX4_needs_45 : decode cX4_needs 45 = .ok (.getfield 10, 3) := by decide +kernel
theorem dX4_needs_48 : decode cX4_needs 48 = .ok (.iload_n 1, 1) := by decide +kernel
theorem dX4_needs_49 : decode cX4_needs 49 = .ok (.iload_n 2, 1) := by decide +kernel
theorem dX4_needs_50 : decode cX4_needs 50 = .ok (.aload_n 0, 1) := by decide +kernel
theorem dX4_needs_51 : decode cX4_needs 51 = .ok (.getfield 10, 3) := by decide +kernel
theorem dX4_needs_54 : decode cX4_needs 54 = .ok (.getfield 92, 3) := by decide +kernel
theorem dX4_needs_57 : decode cX4_needs 57 = .ok (.iconst 0, 1) := by decide +kernel
theorem dX4_needs_58 : decode cX4_needs 58 = .ok (.iaload, 1) := by decide +kernel
theorem dX4_needs_59 : decode cX4_needs 59 = .ok (.invokevirtual 172, 3) := by decide +kernel
theorem dX4_needs_62 : decode cX4_needs 62 = .ok (.ireturn, 1) := by decide +kernel
theorem dX4_needs_63 : decode cX4_needs 63 = .ok (.aload_n 0, 1) := by decide +kernel
theorem dX4_needs_64 : decode cX4_needs 64 = .ok (.getfield 10, 3) := by decide +kernel
theorem dX4_needs_67 : decode cX4_needs 67 = .ok (.iload_n 1, 1) := by decide +kernel
theorem dX4_needs_68 : decode cX4_needs 68 = .ok (.iload_n 2, 1) := by decide +kernel
theorem dX4_needs_69 : decode cX4_needs 69 = .ok (.aload_n 0, 1) := by decide +kernel
theorem dX4_needs_70 : decode cX4_needs 70 = .ok (.getfield 10, 3) := by decide +kernel
theorem dX4_needs_73 : decode cX4_needs 73 = .ok (.getfield 92, 3) := by decide +kernel
theorem dX4_needs_76 : decode cX4_needs 76 = .ok (.iconst 0, 1) := by decide +kernel
theorem dX4_needs_77 : decode cX4_needs 77 = .ok (.iaload, 1) := by decide +kernel
theorem dX4_needs_78 : decode cX4_needs 78 = .ok (.invokevirtual 176, 3) := by decide +kernel
theorem dX4_needs_81 : decode cX4_needs 81 = .ok (.ireturn, 1) := by decide +kernel
theorem dX4_needs_82 : decode cX4_needs 82 = .ok (.iconst (-1), 1) := by decide +kernel
theorem dX4_needs_83 : decode cX4_needs 83 = .ok (.ireturn, 1) := by decide +kernel
theorem dX4_whyNot_0 : decode cX4_whyNot 0 = .ok (.iload_n 1, 1) := by decide +kernel
theorem dX4_whyNot_1 : decode cX4_whyNot 1 = .ok (.invokestatic 44, 3) := by decide +kernel
theorem dX4_whyNot_4 : decode cX4_whyNot 4 = .ok (.ifCond .ne 5, 3) := by decide +kernel
theorem dX4_whyNot_7 : decode cX4_whyNot 7 = .ok (.iconst (-1), 1) := by decide +kernel
theorem dX4_whyNot_8 : decode cX4_whyNot 8 = .ok (.ireturn, 1) := by decide +kernel
theorem dX4_whyNot_9 : decode cX4_whyNot 9 = .ok (.aload_n 0, 1) := by decide +kernel
theorem dX4_whyNot_10 : decode cX4_whyNot 10 = .ok (.getfield 10, 3) := by decide +kernel
theorem dX4_whyNot_13 : decode cX4_whyNot 13 = .ok (.aload_n 0, 1) := by decide +kernel
theorem dX4_whyNot_14 : decode cX4_whyNot 14 = .ok (.getfield 10, 3) := by decide +kernel
theorem dX4_whyNot_17 : decode cX4_whyNot 17 = .ok (.getfield 69, 3) := by decide +kernel
theorem dX4_whyNot_20 : decode cX4_whyNot 20 = .ok (.iload_n 1, 1) := by decide +kernel
theorem dX4_whyNot_21 : decode cX4_whyNot 21 = .ok (.iaload, 1) := by decide +kernel
theorem dX4_whyNot_22 : decode cX4_whyNot 22 = .ok (.invokevirtual 179, 3) := by decide +kernel
theorem dX4_whyNot_25 : decode cX4_whyNot 25 = .ok (.ireturn, 1) := by decide +kernel
theorem dX4_count_0 : decode cX4_count 0 = .ok (.iload_n 1, 1) := by decide +kernel
theorem dX4_count_1 : decode cX4_count 1 = .ok (.tableswitch 172 0 13 #[71, 79, 87, 95, 103, 119, 127, 135, 143, 143, 143, 143, 156, 164], 71) := by decide +kernel
theorem dX4_count_72 : decode cX4_count 72 = .ok (.aload_n 0, 1) := by decide +kernel
theorem dX4_count_73 : decode cX4_count 73 = .ok (.getfield 10, 3) := by decide +kernel
theorem dX4_count_76 : decode cX4_count 76 = .ok (.invokevirtual 182, 3) := by decide +kernel
theorem dX4_count_79 : decode cX4_count 79 = .ok (.ireturn, 1) := by decide +kernel
theorem dX4_count_80 : decode cX4_count 80 = .ok (.aload_n 0, 1) := by decide +kernel
theorem dX4_count_81 : decode cX4_count 81 = .ok (.getfield 10, 3) := by decide +kernel
theorem dX4_count_84 : decode cX4_count 84 = .ok (.getfield 185, 3) := by decide +kernel
theorem dX4_count_87 : decode cX4_count 87 = .ok (.ireturn, 1) := by decide +kernel
theorem dX4_count_88 : decode cX4_count 88 = .ok (.aload_n 0, 1) := by decide +kernel
theorem dX4_count_89 : decode cX4_count 89 = .ok (.getfield 10, 3) := by decide +kernel
theorem dX4_count_92 : decode cX4_count 92 = .ok (.getfield 188, 3) := by decide +kernel
theorem dX4_count_95 : decode cX4_count 95 = .ok (.ireturn, 1) := by decide +kernel
theorem dX4_count_96 : decode cX4_count 96 = .ok (.aload_n 0, 1) := by decide +kernel
theorem dX4_count_97 : decode cX4_count 97 = .ok (.getfield 10, 3) := by decide +kernel
theorem dX4_count_100 : decode cX4_count 100 = .ok (.getfield 191, 3) := by decide +kernel
theorem dX4_count_103 : decode cX4_count 103 = .ok (.ireturn, 1) := by decide +kernel
theorem dX4_count_104 : decode cX4_count 104 = .ok (.aload_n 0, 1) := by decide +kernel
theorem dX4_count_105 : decode cX4_count 105 = .ok (.getfield 10, 3) := by decide +kernel
theorem dX4_count_108 : decode cX4_count 108 = .ok (.invokevirtual 194, 3) := by decide +kernel
theorem dX4_count_111 : decode cX4_count 111 = .ok (.aload_n 0, 1) := by decide +kernel
theorem dX4_count_112 : decode cX4_count 112 = .ok (.getfield 10, 3) := by decide +kernel
theorem dX4_count_115 : decode cX4_count 115 = .ok (.invokevirtual 197, 3) := by decide +kernel
theorem dX4_count_118 : decode cX4_count 118 = .ok (.iadd, 1) := by decide +kernel
theorem dX4_count_119 : decode cX4_count 119 = .ok (.ireturn, 1) := by decide +kernel
theorem dX4_count_120 : decode cX4_count 120 = .ok (.aload_n 0, 1) := by decide +kernel
theorem dX4_count_121 : decode cX4_count 121 = .ok (.getfield 10, 3) := by decide +kernel
theorem dX4_count_124 : decode cX4_count 124 = .ok (.invokevirtual 200, 3) := by decide +kernel
theorem dX4_count_127 : decode cX4_count 127 = .ok (.ireturn, 1) := by decide +kernel
theorem dX4_count_128 : decode cX4_count 128 = .ok (.aload_n 0, 1) := by decide +kernel
theorem dX4_count_129 : decode cX4_count 129 = .ok (.getfield 10, 3) := by decide +kernel
theorem dX4_count_132 : decode cX4_count 132 = .ok (.invokevirtual 203, 3) := by decide +kernel
theorem dX4_count_135 : decode cX4_count 135 = .ok (.ireturn, 1) := by decide +kernel
theorem dX4_count_136 : decode cX4_count 136 = .ok (.aload_n 0, 1) := by decide +kernel
theorem dX4_count_137 : decode cX4_count 137 = .ok (.getfield 10, 3) := by decide +kernel
theorem dX4_count_140 : decode cX4_count 140 = .ok (.invokevirtual 206, 3) := by decide +kernel
theorem dX4_count_143 : decode cX4_count 143 = .ok (.ireturn, 1) := by decide +kernel
theorem dX4_count_144 : decode cX4_count 144 = .ok (.aload_n 0, 1) := by decide +kernel
theorem dX4_count_145 : decode cX4_count 145 = .ok (.getfield 10, 3) := by decide +kernel
theorem dX4_count_148 : decode cX4_count 148 = .ok (.getfield 92, 3) := by decide +kernel
theorem dX4_count_151 : decode cX4_count 151 = .ok (.iload_n 1, 1) := by decide +kernel
theorem dX4_count_152 : decode cX4_count 152 = .ok (.bipush 8, 2) := by decide +kernel
theorem dX4_count_154 : decode cX4_count 154 = .ok (.isub, 1) := by decide +kernel
theorem dX4_count_155 : decode cX4_count 155 = .ok (.iaload, 1) := by decide +kernel
theorem dX4_count_156 : decode cX4_count 156 = .ok (.ireturn, 1) := by decide +kernel
theorem dX4_count_157 : decode cX4_count 157 = .ok (.aload_n 0, 1) := by decide +kernel
theorem dX4_count_158 : decode cX4_count 158 = .ok (.getfield 33, 3) := by decide +kernel
theorem dX4_count_161 : decode cX4_count 161 = .ok (.getfield 103, 3) := by decide +kernel
theorem dX4_count_164 : decode cX4_count 164 = .ok (.ireturn, 1) := by decide +kernel
theorem dX4_count_165 : decode cX4_count 165 = .ok (.aload_n 0, 1) := by decide +kernel
theorem dX4_count_166 : decode cX4_count 166 = .ok (.getfield 26, 3) := by decide +kernel
theorem dX4_count_169 : decode cX4_count 169 = .ok (.getfield 209, 3) := by decide +kernel
theorem dX4_count_172 : decode cX4_count 172 = .ok (.ireturn, 1) := by decide +kernel
theorem dX4_count_173 : decode cX4_count 173 = .ok (.iconst (-1), 1) := by decide +kernel
theorem dX4_count_174 : decode cX4_count 174 = .ok (.ireturn, 1) := by decide +kernel
theorem dX4_darkness_0 : decode cX4_darkness 0 = .ok (.aload_n 0, 1) := by decide +kernel
theorem dX4_darkness_1 : decode cX4_darkness 1 = .ok (.getfield 10, 3) := by decide +kernel
theorem dX4_darkness_4 : decode cX4_darkness 4 = .ok (.invokevirtual 194, 3) := by decide +kernel
theorem dX4_darkness_7 : decode cX4_darkness 7 = .ok (.istore_n 1, 1) := by decide +kernel
theorem dX4_darkness_8 : decode cX4_darkness 8 = .ok (.iload_n 1, 1) := by decide +kernel
theorem dX4_darkness_9 : decode cX4_darkness 9 = .ok (.aload_n 0, 1) := by decide +kernel
theorem dX4_darkness_10 : decode cX4_darkness 10 = .ok (.getfield 10, 3) := by decide +kernel
theorem dX4_darkness_13 : decode cX4_darkness 13 = .ok (.invokevirtual 197, 3) := by decide +kernel
theorem dX4_darkness_16 : decode cX4_darkness 16 = .ok (.iadd, 1) := by decide +kernel
theorem dX4_darkness_17 : decode cX4_darkness 17 = .ok (.istore_n 2, 1) := by decide +kernel
theorem dX4_darkness_18 : decode cX4_darkness 18 = .ok (.iload_n 2, 1) := by decide +kernel
theorem dX4_darkness_19 : decode cX4_darkness 19 = .ok (.ifCond .le 11, 3) := by decide +kernel
theorem dX4_darkness_22 : decode cX4_darkness 22 = .ok (.iload_n 1, 1) := by decide +kernel
theorem dX4_darkness_23 : decode cX4_darkness 23 = .ok (.i2d, 1) := by decide +kernel
theorem dX4_darkness_24 : decode cX4_darkness 24 = .ok (.iload_n 2, 1) := by decide +kernel
theorem dX4_darkness_25 : decode cX4_darkness 25 = .ok (.i2d, 1) := by decide +kernel
theorem dX4_darkness_26 : decode cX4_darkness 26 = .ok (.ddiv, 1) := by decide +kernel
theorem dX4_darkness_27 : decode cX4_darkness 27 = .ok (.goto 4, 3) := by decide +kernel
theorem dX4_darkness_30 : decode cX4_darkness 30 = .ok (.dconst 1, 1) := by decide +kernel
theorem dX4_darkness_31 : decode cX4_darkness 31 = .ok (.dreturn, 1) := by decide +kernel
theorem dX4_lasts_0 : decode cX4_lasts 0 = .ok (.iload_n 1, 1) := by decide +kernel
theorem dX4_lasts_1 : decode cX4_lasts 1 = .ok (.invokestatic 59, 3) := by decide +kernel
theorem dX4_lasts_4 : decode cX4_lasts 4 = .ok (.ifCond .eq 10, 3) := by decide +kernel
theorem dX4_lasts_7 : decode cX4_lasts 7 = .ok (.iload_n 2, 1) := by decide +kernel
theorem dX4_lasts_8 : decode cX4_lasts 8 = .ok (.invokestatic 48, 3) := by decide +kernel
theorem dX4_lasts_11 : decode cX4_lasts 11 = .ok (.ifCond .ne 5, 3) := by decide +kernel
theorem dX4_lasts_14 : decode cX4_lasts 14 = .ok (.iconst (-1), 1) := by decide +kernel
theorem dX4_lasts_15 : decode cX4_lasts 15 = .ok (.ireturn, 1) := by decide +kernel
theorem dX4_lasts_16 : decode cX4_lasts 16 = .ok (.aload_n 0, 1) := by decide +kernel
theorem dX4_lasts_17 : decode cX4_lasts 17 = .ok (.getfield 10, 3) := by decide +kernel
theorem dX4_lasts_20 : decode cX4_lasts 20 = .ok (.iload_n 1, 1) := by decide +kernel
theorem dX4_lasts_21 : decode cX4_lasts 21 = .ok (.iload_n 2, 1) := by decide +kernel
theorem dX4_lasts_22 : decode cX4_lasts 22 = .ok (.aload_n 0, 1) := by decide +kernel
theorem dX4_lasts_23 : decode cX4_lasts 23 = .ok (.getfield 10, 3) := by decide +kernel
theorem dX4_lasts_26 : decode cX4_lasts 26 = .ok (.getfield 92, 3) := by decide +kernel
theorem dX4_lasts_29 : decode cX4_lasts 29 = .ok (.iconst 0, 1) := by decide +kernel
theorem dX4_lasts_30 : decode cX4_lasts 30 = .ok (.iaload, 1) := by decide +kernel
theorem dX4_lasts_31 : decode cX4_lasts 31 = .ok (.invokevirtual 172, 3) := by decide +kernel
theorem dX4_lasts_34 : decode cX4_lasts 34 = .ok (.istore 4, 2) := by decide +kernel
theorem dX4_lasts_36 : decode cX4_lasts 36 = .ok (.aload_n 0, 1) := by decide +kernel
theorem dX4_lasts_37 : decode cX4_lasts 37 = .ok (.getfield 10, 3) := by decide +kernel
theorem dX4_lasts_40 : decode cX4_lasts 40 = .ok (.iload_n 1, 1) := by decide +kernel
theorem dX4_lasts_41 : decode cX4_lasts 41 = .ok (.iload 4, 2) := by decide +kernel
theorem dX4_lasts_43 : decode cX4_lasts 43 = .ok (.iload_n 3, 1) := by decide +kernel
theorem dX4_lasts_44 : decode cX4_lasts 44 = .ok (.sipush 999, 3) := by decide +kernel
theorem dX4_lasts_47 : decode cX4_lasts 47 = .ok (.invokevirtual 212, 3) := by decide +kernel
theorem dX4_lasts_50 : decode cX4_lasts 50 = .ok (.ireturn, 1) := by decide +kernel
theorem dX4_atHand_0 : decode cX4_atHand 0 = .ok (.iload_n 1, 1) := by decide +kernel
theorem dX4_atHand_1 : decode cX4_atHand 1 = .ok (.invokestatic 59, 3) := by decide +kernel
theorem dX4_atHand_4 : decode cX4_atHand 4 = .ok (.ifCond .eq 31, 3) := by decide +kernel
theorem dX4_atHand_7 : decode cX4_atHand 7 = .ok (.iload_n 2, 1) := by decide +kernel
theorem dX4_atHand_8 : decode cX4_atHand 8 = .ok (.invokestatic 48, 3) := by decide +kernel
theorem dX4_atHand_11 : decode cX4_atHand 11 = .ok (.ifCond .eq 24, 3) := by decide +kernel
theorem dX4_atHand_14 : decode cX4_atHand 14 = .ok (.iload_n 3, 1) := by decide +kernel
theorem dX4_atHand_15 : decode cX4_atHand 15 = .ok (.ifCond .lt 20, 3) := by decide +kernel
theorem dX4_atHand_18 : decode cX4_atHand 18 = .ok (.iload_n 3, 1) := by decide +kernel
theorem dX4_atHand_19 : decode cX4_atHand 19 = .ok (.bipush 50, 2) := by decide +kernel
theorem dX4_atHand_21 : decode cX4_atHand 21 = .ok (.if_icmp .gt 14, 3) := by decide +kernel
theorem dX4_atHand_24 : decode cX4_atHand 24 = .ok (.iload 4, 2) := by decide +kernel
theorem dX4_atHand_26 : decode cX4_atHand 26 = .ok (.ifCond .lt 9, 3) := by decide +kernel
theorem dX4_atHand_29 : decode cX4_atHand 29 = .ok (.iload 4, 2) := by decide +kernel
theorem dX4_atHand_31 : decode cX4_atHand 31 = .ok (.iconst 1, 1) := by decide +kernel
theorem dX4_atHand_32 : decode cX4_atHand 32 = .ok (.if_icmp .le 5, 3) := by decide +kernel
theorem dX4_atHand_35 : decode cX4_atHand 35 = .ok (.iconst (-1), 1) := by decide +kernel
theorem dX4_atHand_36 : decode cX4_atHand 36 = .ok (.ireturn, 1) := by decide +kernel
theorem dX4_atHand_37 : decode cX4_atHand 37 = .ok (.aload_n 0, 1) := by decide +kernel
theorem dX4_atHand_38 : decode cX4_atHand 38 = .ok (.getfield 10, 3) := by decide +kernel
theorem dX4_atHand_41 : decode cX4_atHand 41 = .ok (.iload_n 1, 1) := by decide +kernel
theorem dX4_atHand_42 : decode cX4_atHand 42 = .ok (.iload_n 2, 1) := by decide +kernel
theorem dX4_atHand_43 : decode cX4_atHand 43 = .ok (.aload_n 0, 1) := by decide +kernel
theorem dX4_atHand_44 : decode cX4_atHand 44 = .ok (.getfield 10, 3) := by decide +kernel
theorem dX4_atHand_47 : decode cX4_atHand 47 = .ok (.getfield 92, 3) := by decide +kernel
theorem dX4_atHand_50 : decode cX4_atHand 50 = .ok (.iconst 0, 1) := by decide +kernel
theorem dX4_atHand_51 : decode cX4_atHand 51 = .ok (.iaload, 1) := by decide +kernel
theorem dX4_atHand_52 : decode cX4_atHand 52 = .ok (.invokevirtual 172, 3) := by decide +kernel
theorem dX4_atHand_55 : decode cX4_atHand 55 = .ok (.istore 5, 2) := by decide +kernel
theorem dX4_atHand_57 : decode cX4_atHand 57 = .ok (.aload_n 0, 1) := by decide +kernel
theorem dX4_atHand_58 : decode cX4_atHand 58 = .ok (.getfield 10, 3) := by decide +kernel
theorem dX4_atHand_61 : decode cX4_atHand 61 = .ok (.iload_n 1, 1) := by decide +kernel
theorem dX4_atHand_62 : decode cX4_atHand 62 = .ok (.iload 5, 2) := by decide +kernel
theorem dX4_atHand_64 : decode cX4_atHand 64 = .ok (.iconst 0, 1) := by decide +kernel
theorem dX4_atHand_65 : decode cX4_atHand 65 = .ok (.iload_n 3, 1) := by decide +kernel
theorem dX4_atHand_66 : decode cX4_atHand 66 = .ok (.invokevirtual 212, 3) := by decide +kernel
theorem dX4_atHand_69 : decode cX4_atHand 69 = .ok (.iload_n 3, 1) := by decide +kernel
theorem dX4_atHand_70 : decode cX4_atHand 70 = .ok (.if_icmp .ge 6, 3) := by decide +kernel
theorem dX4_atHand_73 : decode cX4_atHand 73 = .ok (.bipush (-4), 2) := by decide +kernel
theorem dX4_atHand_75 : decode cX4_atHand 75 = .ok (.ireturn, 1) := by decide +kernel
theorem dX4_atHand_76 : decode cX4_atHand 76 = .ok (.iload 4, 2) := by decide +kernel
theorem dX4_atHand_78 : decode cX4_atHand 78 = .ok (.ifCond .ne 17, 3) := by decide +kernel
theorem dX4_atHand_81 : decode cX4_atHand 81 = .ok (.aload_n 0, 1) := by decide +kernel
theorem dX4_atHand_82 : decode cX4_atHand 82 = .ok (.getfield 10, 3) := by decide +kernel
theorem dX4_atHand_85 : decode cX4_atHand 85 = .ok (.iload_n 1, 1) := by decide +kernel
theorem dX4_atHand_86 : decode cX4_atHand 86 = .ok (.iload 5, 2) := by decide +kernel
theorem dX4_atHand_88 : decode cX4_atHand 88 = .ok (.iload_n 3, 1) := by decide +kernel
theorem dX4_atHand_89 : decode cX4_atHand 89 = .ok (.invokevirtual 216, 3) := by decide +kernel
theorem dX4_atHand_92 : decode cX4_atHand 92 = .ok (.goto 14, 3) := by decide +kernel
theorem dX4_atHand_95 : decode cX4_atHand 95 = .ok (.aload_n 0, 1) := by decide +kernel
theorem dX4_atHand_96 : decode cX4_atHand 96 = .ok (.getfield 10, 3) := by decide +kernel
theorem dX4_atHand_99 : decode cX4_atHand 99 = .ok (.iload_n 1, 1) := by decide +kernel
theorem dX4_atHand_100 : decode cX4_atHand 100 = .ok (.iload 5, 2) := by decide +kernel
theorem dX4_atHand_102 : decode cX4_atHand 102 = .ok (.iload_n 3, 1) := by decide +kernel
theorem dX4_atHand_103 : decode cX4_atHand 103 = .ok (.invokevirtual 219, 3) := by decide +kernel
theorem dX4_atHand_106 : decode cX4_atHand 106 = .ok (.ireturn, 1) := by decide +kernel
theorem dX4_bestFor_0 : decode cX4_bestFor 0 = .ok (.iload_n 1, 1) := by decide +kernel
theorem dX4_bestFor_1 : decode cX4_bestFor 1 = .ok (.invokestatic 48, 3) := by decide +kernel
theorem dX4_bestFor_4 : decode cX4_bestFor 4 = .ok (.ifCond .eq 10, 3) := by decide +kernel
theorem dX4_bestFor_7 : decode cX4_bestFor 7 = .ok (.iload_n 2, 1) := by decide +kernel
theorem dX4_bestFor_8 : decode cX4_bestFor 8 = .ok (.invokestatic 222, 3) := by decide +kernel
theorem dX4_bestFor_11 : decode cX4_bestFor 11 = .ok (.ifCond .ne 5, 3) := by decide +kernel
theorem dX4_bestFor_14 : decode cX4_bestFor 14 = .ok (.iconst (-1), 1) := by decide +kernel
theorem dX4_bestFor_15 : decode cX4_bestFor 15 = .ok (.ireturn, 1) := by decide +kernel
theorem dX4_bestFor_16 : decode cX4_bestFor 16 = .ok (.bipush (-4), 2) := by decide +kernel
theorem dX4_bestFor_18 : decode cX4_bestFor 18 = .ok (.istore_n 3, 1) := by decide +kernel
theorem dX4_bestFor_19 : decode cX4_bestFor 19 = .ok (.iconst 0, 1) := by decide +kernel
theorem dX4_bestFor_20 : decode cX4_bestFor 20 = .ok (.istore 4, 2) := by decide +kernel
theorem dX4_bestFor_22 : decode cX4_bestFor 22 = .ok (.iconst 0, 1) := by decide +kernel
theorem dX4_bestFor_23 : decode cX4_bestFor 23 = .ok (.istore 5, 2) := by decide +kernel
theorem dX4_bestFor_25 : decode cX4_bestFor 25 = .ok (.iload 5, 2) := by decide +kernel
theorem dX4_bestFor_27 : decode cX4_bestFor 27 = .ok (.iconst 4, 1) := by decide +kernel
theorem dX4_bestFor_28 : decode cX4_bestFor 28 = .ok (.if_icmp .ge 70, 3) := by decide +kernel
theorem dX4_bestFor_31 : decode cX4_bestFor 31 = .ok (.aload_n 0, 1) := by decide +kernel
theorem dX4_bestFor_32 : decode cX4_bestFor 32 = .ok (.getfield 10, 3) := by decide +kernel
theorem dX4_bestFor_35 : decode cX4_bestFor 35 = .ok (.iload 5, 2) := by decide +kernel
theorem dX4_bestFor_37 : decode cX4_bestFor 37 = .ok (.iload_n 1, 1) := by decide +kernel
theorem dX4_bestFor_38 : decode cX4_bestFor 38 = .ok (.aload_n 0, 1) := by decide +kernel
theorem dX4_bestFor_39 : decode cX4_bestFor 39 = .ok (.getfield 10, 3) := by decide +kernel
theorem dX4_bestFor_42 : decode cX4_bestFor 42 = .ok (.getfield 92, 3) := by decide +kernel
theorem dX4_bestFor_45 : decode cX4_bestFor 45 = .ok (.iconst 0, 1) := by decide +kernel
theorem dX4_bestFor_46 : decode cX4_bestFor 46 = .ok (.iaload, 1) := by decide +kernel
theorem dX4_bestFor_47 : decode cX4_bestFor 47 = .ok (.iload_n 2, 1) := by decide +kernel
theorem dX4_bestFor_48 : decode cX4_bestFor 48 = .ok (.invokevirtual 225, 3) := by decide +kernel
theorem dX4_bestFor_51 : decode cX4_bestFor 51 = .ok (.istore 6, 2) := by decide +kernel
theorem dX4_bestFor_53 : decode cX4_bestFor 53 = .ok (.iload 6, 2) := by decide +kernel
theorem dX4_bestFor_55 : decode cX4_bestFor 55 = .ok (.ifCond .eq 37, 3) := by decide +kernel
theorem dX4_bestFor_58 : decode cX4_bestFor 58 = .ok (.iload_n 3, 1) := by decide +kernel
theorem dX4_bestFor_59 : decode cX4_bestFor 59 = .ok (.bipush (-4), 2) := by decide +kernel
theorem dX4_bestFor_61 : decode cX4_bestFor 61 = .ok (.if_icmp .eq 17, 3) := by decide +kernel
theorem dX4_bestFor_64 : decode cX4_bestFor 64 = .ok (.aload_n 0, 1) := by decide +kernel
theorem dX4_bestFor_65 : decode cX4_bestFor 65 = .ok (.getfield 10, 3) := by decide +kernel
theorem dX4_bestFor_68 : decode cX4_bestFor 68 = .ok (.iload 5, 2) := by decide +kernel
theorem dX4_bestFor_70 : decode cX4_bestFor 70 = .ok (.invokevirtual 80, 3) := by decide +kernel
theorem dX4_bestFor_73 : decode cX4_bestFor 73 = .ok (.iload 4, 2) := by decide +kernel
theorem dX4_bestFor_75 : decode cX4_bestFor 75 = .ok (.if_icmp .ge 17, 3) := by decide +kernel
theorem dX4_bestFor_78 : decode cX4_bestFor 78 = .ok (.iload 5, 2) := by decide +kernel
theorem dX4_bestFor_80 : decode cX4_bestFor 80 = .ok (.istore_n 3, 1) := by decide +kernel
theorem dX4_bestFor_81 : decode cX4_bestFor 81 = .ok (.aload_n 0, 1) := by decide +kernel
theorem dX4_bestFor_82 : decode cX4_bestFor 82 = .ok (.getfield 10, 3) := by decide +kernel
theorem dX4_bestFor_85 : decode cX4_bestFor 85 = .ok (.iload 5, 2) := by decide +kernel
theorem dX4_bestFor_87 : decode cX4_bestFor 87 = .ok (.invokevirtual 80, 3) := by decide +kernel
theorem dX4_bestFor_90 : decode cX4_bestFor 90 = .ok (.istore 4, 2) := by decide +kernel
theorem dX4_bestFor_92 : decode cX4_bestFor 92 = .ok (.iinc 5 1, 3) := by decide +kernel
theorem dX4_bestFor_95 : decode cX4_bestFor 95 = .ok (.goto (-70), 3) := by decide +kernel
theorem dX4_bestFor_98 : decode cX4_bestFor 98 = .ok (.iload_n 3, 1) := by decide +kernel
theorem dX4_bestFor_99 : decode cX4_bestFor 99 = .ok (.ireturn, 1) := by decide +kernel
theorem dX4_darkest_0 : decode cX4_darkest 0 = .ok (.iload_n 1, 1) := by decide +kernel
theorem dX4_darkest_1 : decode cX4_darkest 1 = .ok (.invokestatic 59, 3) := by decide +kernel
theorem dX4_darkest_4 : decode cX4_darkest 4 = .ok (.ifCond .eq 17, 3) := by decide +kernel
theorem dX4_darkest_7 : decode cX4_darkest 7 = .ok (.iload_n 2, 1) := by decide +kernel
theorem dX4_darkest_8 : decode cX4_darkest 8 = .ok (.invokestatic 48, 3) := by decide +kernel
theorem dX4_darkest_11 : decode cX4_darkest 11 = .ok (.ifCond .eq 10, 3) := by decide +kernel
theorem dX4_darkest_14 : decode cX4_darkest 14 = .ok (.iload_n 3, 1) := by decide +kernel
theorem dX4_darkest_15 : decode cX4_darkest 15 = .ok (.invokestatic 222, 3) := by decide +kernel
theorem dX4_darkest_18 : decode cX4_darkest 18 = .ok (.ifCond .ne 5, 3) := by decide +kernel
theorem dX4_darkest_21 : decode cX4_darkest 21 = .ok (.iconst (-1), 1) := by decide +kernel
theorem dX4_darkest_22 : decode cX4_darkest 22 = .ok (.ireturn, 1) := by decide +kernel
theorem dX4_darkest_23 : decode cX4_darkest 23 = .ok (.iconst 5, 1) := by decide +kernel
theorem dX4_darkest_24 : decode cX4_darkest 24 = .ok (.istore 4, 2) := by decide +kernel
theorem dX4_darkest_26 : decode cX4_darkest 26 = .ok (.iload 4, 2) := by decide +kernel
theorem dX4_darkest_28 : decode cX4_darkest 28 = .ok (.iconst 1, 1) := by decide +kernel
theorem dX4_darkest_29 : decode cX4_darkest 29 = .ok (.if_icmp .lt 27, 3) := by decide +kernel
theorem dX4_darkest_32 : decode cX4_darkest 32 = .ok (.aload_n 0, 1) := by decide +kernel
theorem dX4_darkest_33 : decode cX4_darkest 33 = .ok (.getfield 10, 3) := by decide +kernel
theorem dX4_darkest_36 : decode cX4_darkest 36 = .ok (.iload_n 1, 1) := by decide +kernel
theorem dX4_darkest_37 : decode cX4_darkest 37 = .ok (.iload_n 2, 1) := by decide +kernel
theorem dX4_darkest_38 : decode cX4_darkest 38 = .ok (.iload 4, 2) := by decide +kernel
theorem dX4_darkest_40 : decode cX4_darkest 40 = .ok (.iload_n 3, 1) := by decide +kernel
theorem dX4_darkest_41 : decode cX4_darkest 41 = .ok (.invokevirtual 225, 3) := by decide +kernel
theorem dX4_darkest_44 : decode cX4_darkest 44 = .ok (.ifCond .eq 6, 3) := by decide +kernel
theorem dX4_darkest_47 : decode cX4_darkest 47 = .ok (.iload 4, 2) := by decide +kernel
theorem dX4_darkest_49 : decode cX4_darkest 49 = .ok (.ireturn, 1) := by decide +kernel
theorem dX4_darkest_50 : decode cX4_darkest 50 = .ok (.iinc 4 (-1), 3) := by decide +kernel
theorem dX4_darkest_53 : decode cX4_darkest 53 = .ok (.goto (-27), 3) := by decide +kernel
theorem dX4_darkest_56 : decode cX4_darkest 56 = .ok (.bipush (-4), 2) := by decide +kernel
theorem dX4_darkest_58 : decode cX4_darkest 58 = .ok (.ireturn, 1) := by decide +kernel
theorem dX4_undo_0 : decode cX4_undo 0 = .ok (.aload_n 0, 1) := by decide +kernel
theorem dX4_undo_1 : decode cX4_undo 1 = .ok (.getfield 26, 3) := by decide +kernel
theorem dX4_undo_4 : decode cX4_undo 4 = .ok (.getfield 209, 3) := by decide +kernel
theorem dX4_undo_7 : decode cX4_undo 7 = .ok (.iconst 1, 1) := by decide +kernel
theorem dX4_undo_8 : decode cX4_undo 8 = .ok (.if_icmp .ge 6, 3) := by decide +kernel
theorem dX4_undo_11 : decode cX4_undo 11 = .ok (.bipush (-2), 2) := by decide +kernel
theorem dX4_undo_13 : decode cX4_undo 13 = .ok (.ireturn, 1) := by decide +kernel
theorem dX4_undo_14 : decode cX4_undo 14 = .ok (.aload_n 0, 1) := by decide +kernel
theorem dX4_undo_15 : decode cX4_undo 15 = .ok (.getfield 26, 3) := by decide +kernel
theorem dX4_undo_18 : decode cX4_undo 18 = .ok (.aload_n 0, 1) := by decide +kernel
theorem dX4_undo_19 : decode cX4_undo 19 = .ok (.getfield 10, 3) := by decide +kernel
theorem dX4_undo_22 : decode cX4_undo 22 = .ok (.invokevirtual 229, 3) := by decide +kernel
theorem dX4_undo_25 : decode cX4_undo 25 = .ok (.aload_n 0, 1) := by decide +kernel
theorem dX4_undo_26 : decode cX4_undo 26 = .ok (.getfield 26, 3) := by decide +kernel
theorem dX4_undo_29 : decode cX4_undo 29 = .ok (.getfield 209, 3) := by decide +kernel
theorem dX4_undo_32 : decode cX4_undo 32 = .ok (.ireturn, 1) := by decide +kernel
theorem dX4_save_0 : decode cX4_save 0 = .ok (.aload_n 0, 1) := by decide +kernel
theorem dX4_save_1 : decode cX4_save 1 = .ok (.getfield 16, 3) := by decide +kernel
theorem dX4_save_4 : decode cX4_save 4 = .ok (.aload_n 0, 1) := by decide +kernel
theorem dX4_save_5 : decode cX4_save 5 = .ok (.getfield 10, 3) := by decide +kernel
theorem dX4_save_8 : decode cX4_save 8 = .ok (.invokevirtual 232, 3) := by decide +kernel
theorem dX4_save_11 : decode cX4_save 11 = .ok (.aload_n 0, 1) := by decide +kernel
theorem dX4_save_12 : decode cX4_save 12 = .ok (.iconst 1, 1) := by decide +kernel
theorem dX4_save_13 : decode cX4_save 13 = .ok (.putfield 19, 3) := by decide +kernel
theorem dX4_save_16 : decode cX4_save 16 = .ok (.aload_n 0, 1) := by decide +kernel
theorem dX4_save_17 : decode cX4_save 17 = .ok (.getfield 10, 3) := by decide +kernel
theorem dX4_save_20 : decode cX4_save 20 = .ok (.invokevirtual 182, 3) := by decide +kernel
theorem dX4_save_23 : decode cX4_save 23 = .ok (.ireturn, 1) := by decide +kernel
theorem dX4_restore_0 : decode cX4_restore 0 = .ok (.aload_n 0, 1) := by decide +kernel
theorem dX4_restore_1 : decode cX4_restore 1 = .ok (.getfield 19, 3) := by decide +kernel
theorem dX4_restore_4 : decode cX4_restore 4 = .ok (.ifCond .ne 6, 3) := by decide +kernel
theorem dX4_restore_7 : decode cX4_restore 7 = .ok (.bipush (-2), 2) := by decide +kernel
theorem dX4_restore_9 : decode cX4_restore 9 = .ok (.ireturn, 1) := by decide +kernel
theorem dX4_restore_10 : decode cX4_restore 10 = .ok (.aload_n 0, 1) := by decide +kernel
theorem dX4_restore_11 : decode cX4_restore 11 = .ok (.getfield 26, 3) := by decide +kernel
theorem dX4_restore_14 : decode cX4_restore 14 = .ok (.aload_n 0, 1) := by decide +kernel
theorem dX4_restore_15 : decode cX4_restore 15 = .ok (.getfield 10, 3) := by decide +kernel
theorem dX4_restore_18 : decode cX4_restore 18 = .ok (.invokevirtual 51, 3) := by decide +kernel
theorem dX4_restore_21 : decode cX4_restore 21 = .ok (.aload_n 0, 1) := by decide +kernel
theorem dX4_restore_22 : decode cX4_restore 22 = .ok (.getfield 10, 3) := by decide +kernel
theorem dX4_restore_25 : decode cX4_restore 25 = .ok (.aload_n 0, 1) := by decide +kernel
theorem dX4_restore_26 : decode cX4_restore 26 = .ok (.getfield 16, 3) := by decide +kernel
theorem dX4_restore_29 : decode cX4_restore 29 = .ok (.invokevirtual 232, 3) := by decide +kernel
theorem dX4_restore_32 : decode cX4_restore 32 = .ok (.aload_n 0, 1) := by decide +kernel
theorem dX4_restore_33 : decode cX4_restore 33 = .ok (.getfield 10, 3) := by decide +kernel
theorem dX4_restore_36 : decode cX4_restore 36 = .ok (.invokevirtual 182, 3) := by decide +kernel
theorem dX4_restore_39 : decode cX4_restore 39 = .ok (.ireturn, 1) := by decide +kernel
theorem dX4_doDeed_0 : decode cX4_doDeed 0 = .ok (.aload_n 0, 1) := by decide +kernel
theorem dX4_doDeed_1 : decode cX4_doDeed 1 = .ok (.getfield 33, 3) := by decide +kernel
theorem dX4_doDeed_4 : decode cX4_doDeed 4 = .ok (.getfield 235, 3) := by decide +kernel
theorem dX4_doDeed_7 : decode cX4_doDeed 7 = .ok (.iload_n 1, 1) := by decide +kernel
theorem dX4_doDeed_8 : decode cX4_doDeed 8 = .ok (.caload, 1) := by decide +kernel
theorem dX4_doDeed_9 : decode cX4_doDeed 9 = .ok (.istore_n 2, 1) := by decide +kernel
theorem dX4_doDeed_10 : decode cX4_doDeed 10 = .ok (.iload_n 2, 1) := by decide +kernel
theorem dX4_doDeed_11 : decode cX4_doDeed 11 = .ok (.bipush 112, 2) := by decide +kernel
theorem dX4_doDeed_13 : decode cX4_doDeed 13 = .ok (.if_icmp .ne 9, 3) := by decide +kernel
theorem dX4_doDeed_16 : decode cX4_doDeed 16 = .ok (.aload_n 0, 1) := by decide +kernel
theorem dX4_doDeed_17 : decode cX4_doDeed 17 = .ok (.iload_n 1, 1) := by decide +kernel
theorem dX4_doDeed_18 : decode cX4_doDeed 18 = .ok (.invokevirtual 239, 3) := by decide +kernel
theorem dX4_doDeed_21 : decode cX4_doDeed 21 = .ok (.ireturn, 1) := by decide +kernel
theorem dX4_doDeed_22 : decode cX4_doDeed 22 = .ok (.iload_n 2, 1) := by decide +kernel
theorem dX4_doDeed_23 : decode cX4_doDeed 23 = .ok (.bipush 115, 2) := by decide +kernel
theorem dX4_doDeed_25 : decode cX4_doDeed 25 = .ok (.if_icmp .ne 23, 3) := by decide +kernel
theorem dX4_doDeed_28 : decode cX4_doDeed 28 = .ok (.aload_n 0, 1) := by decide +kernel
theorem dX4_doDeed_29 : decode cX4_doDeed 29 = .ok (.getfield 10, 3) := by decide +kernel
theorem dX4_doDeed_32 : decode cX4_doDeed 32 = .ok (.aload_n 0, 1) := by decide +kernel
theorem dX4_doDeed_33 : decode cX4_doDeed 33 = .ok (.getfield 33, 3) := by decide +kernel
theorem dX4_doDeed_36 : decode cX4_doDeed 36 = .ok (.getfield 242, 3) := by decide +kernel
theorem dX4_doDeed_39 : decode cX4_doDeed 39 = .ok (.iload_n 1, 1) := by decide +kernel
theorem dX4_doDeed_40 : decode cX4_doDeed 40 = .ok (.iaload, 1) := by decide +kernel
theorem dX4_doDeed_41 : decode cX4_doDeed 41 = .ok (.invokevirtual 62, 3) := by decide +kernel
theorem dX4_doDeed_44 : decode cX4_doDeed 44 = .ok (.pop, 1) := by decide +kernel
theorem dX4_doDeed_45 : decode cX4_doDeed 45 = .ok (.goto 29, 3) := by decide +kernel
theorem dX4_doDeed_48 : decode cX4_doDeed 48 = .ok (.aload_n 0, 1) := by decide +kernel
theorem dX4_doDeed_49 : decode cX4_doDeed 49 = .ok (.getfield 10, 3) := by decide +kernel
theorem dX4_doDeed_52 : decode cX4_doDeed 52 = .ok (.aload_n 0, 1) := by decide +kernel
theorem dX4_doDeed_53 : decode cX4_doDeed 53 = .ok (.getfield 33, 3) := by decide +kernel
theorem dX4_doDeed_56 : decode cX4_doDeed 56 = .ok (.getfield 242, 3) := by decide +kernel
theorem dX4_doDeed_59 : decode cX4_doDeed 59 = .ok (.iload_n 1, 1) := by decide +kernel
theorem dX4_doDeed_60 : decode cX4_doDeed 60 = .ok (.iaload, 1) := by decide +kernel
theorem dX4_doDeed_61 : decode cX4_doDeed 61 = .ok (.aload_n 0, 1) := by decide +kernel
theorem dX4_doDeed_62 : decode cX4_doDeed 62 = .ok (.getfield 33, 3) := by decide +kernel
theorem dX4_doDeed_65 : decode cX4_doDeed 65 = .ok (.getfield 245, 3) := by decide +kernel
theorem dX4_doDeed_68 : decode cX4_doDeed 68 = .ok (.iload_n 1, 1) := by decide +kernel
theorem dX4_doDeed_69 : decode cX4_doDeed 69 = .ok (.iaload, 1) := by decide +kernel
theorem dX4_doDeed_70 : decode cX4_doDeed 70 = .ok (.invokevirtual 66, 3) := by decide +kernel
theorem dX4_doDeed_73 : decode cX4_doDeed 73 = .ok (.pop, 1) := by decide +kernel
theorem dX4_doDeed_74 : decode cX4_doDeed 74 = .ok (.iconst 0, 1) := by decide +kernel
theorem dX4_doDeed_75 : decode cX4_doDeed 75 = .ok (.ireturn, 1) := by decide +kernel
theorem dX4_printPagesOf_0 : decode cX4_printPagesOf 0 = .ok (.aload_n 0, 1) := by decide +kernel
theorem dX4_printPagesOf_1 : decode cX4_printPagesOf 1 = .ok (.getfield 33, 3) := by decide +kernel
theorem dX4_printPagesOf_4 : decode cX4_printPagesOf 4 = .ok (.getfield 248, 3) := by decide +kernel
theorem dX4_printPagesOf_7 : decode cX4_printPagesOf 7 = .ok (.iload_n 1, 1) := by decide +kernel
theorem dX4_printPagesOf_8 : decode cX4_printPagesOf 8 = .ok (.iaload, 1) := by decide +kernel
theorem dX4_printPagesOf_9 : decode cX4_printPagesOf 9 = .ok (.istore_n 2, 1) := by decide +kernel
theorem dX4_printPagesOf_10 : decode cX4_printPagesOf 10 = .ok (.iconst 0, 1) := by decide +kernel
theorem dX4_printPagesOf_11 : decode cX4_printPagesOf 11 = .ok (.istore_n 3, 1) := by decide +kernel
theorem dX4_printPagesOf_12 : decode cX4_printPagesOf 12 = .ok (.iload_n 3, 1) := by decide +kernel
theorem dX4_printPagesOf_13 : decode cX4_printPagesOf 13 = .ok (.iload_n 2, 1) := by decide +kernel
theorem dX4_printPagesOf_14 : decode cX4_printPagesOf 14 = .ok (.if_icmp .ge 65, 3) := by decide +kernel
theorem dX4_printPagesOf_17 : decode cX4_printPagesOf 17 = .ok (.aload_n 0, 1) := by decide +kernel
theorem dX4_printPagesOf_18 : decode cX4_printPagesOf 18 = .ok (.getfield 10, 3) := by decide +kernel
theorem dX4_printPagesOf_21 : decode cX4_printPagesOf 21 = .ok (.aload_n 0, 1) := by decide +kernel
theorem dX4_printPagesOf_22 : decode cX4_printPagesOf 22 = .ok (.getfield 33, 3) := by decide +kernel
theorem dX4_printPagesOf_25 : decode cX4_printPagesOf 25 = .ok (.getfield 242, 3) := by decide +kernel
theorem dX4_printPagesOf_28 : decode cX4_printPagesOf 28 = .ok (.iload_n 1, 1) := by decide +kernel
theorem dX4_printPagesOf_29 : decode cX4_printPagesOf 29 = .ok (.iaload, 1) := by decide +kernel
theorem dX4_printPagesOf_30 : decode cX4_printPagesOf 30 = .ok (.aload_n 0, 1) := by decide +kernel
theorem dX4_printPagesOf_31 : decode cX4_printPagesOf 31 = .ok (.getfield 33, 3) := by decide +kernel
theorem dX4_printPagesOf_34 : decode cX4_printPagesOf 34 = .ok (.getfield 245, 3) := by decide +kernel
theorem dX4_printPagesOf_37 : decode cX4_printPagesOf 37 = .ok (.iload_n 1, 1) := by decide +kernel
theorem dX4_printPagesOf_38 : decode cX4_printPagesOf 38 = .ok (.iaload, 1) := by decide +kernel
theorem dX4_printPagesOf_39 : decode cX4_printPagesOf 39 = .ok (.invokevirtual 55, 3) := by decide +kernel
theorem dX4_printPagesOf_42 : decode cX4_printPagesOf 42 = .ok (.istore 4, 2) := by decide +kernel
theorem dX4_printPagesOf_44 : decode cX4_printPagesOf 44 = .ok (.iload 4, 2) := by decide +kernel
theorem dX4_printPagesOf_46 : decode cX4_printPagesOf 46 = .ok (.bipush 10, 2) := by decide +kernel
theorem dX4_printPagesOf_48 : decode cX4_printPagesOf 48 = .ok (.if_icmp .ge 25, 3) := by decide +kernel
theorem dX4_printPagesOf_51 : decode cX4_printPagesOf 51 = .ok (.aload_n 0, 1) := by decide +kernel
theorem dX4_printPagesOf_52 : decode cX4_printPagesOf 52 = .ok (.getfield 40, 3) := by decide +kernel
theorem dX4_printPagesOf_55 : decode cX4_printPagesOf 55 = .ok (.iload 4, 2) := by decide +kernel
theorem dX4_printPagesOf_57 : decode cX4_printPagesOf 57 = .ok (.iload_n 1, 1) := by decide +kernel
theorem dX4_printPagesOf_58 : decode cX4_printPagesOf 58 = .ok (.aload_n 0, 1) := by decide +kernel
theorem dX4_printPagesOf_59 : decode cX4_printPagesOf 59 = .ok (.getfield 33, 3) := by decide +kernel
theorem dX4_printPagesOf_62 : decode cX4_printPagesOf 62 = .ok (.getfield 251, 3) := by decide +kernel
theorem dX4_printPagesOf_65 : decode cX4_printPagesOf 65 = .ok (.iload_n 1, 1) := by decide +kernel
theorem dX4_printPagesOf_66 : decode cX4_printPagesOf 66 = .ok (.iaload, 1) := by decide +kernel
theorem dX4_printPagesOf_67 : decode cX4_printPagesOf 67 = .ok (.iload_n 3, 1) := by decide +kernel
theorem dX4_printPagesOf_68 : decode cX4_printPagesOf 68 = .ok (.invokevirtual 254, 3) := by decide +kernel
theorem dX4_printPagesOf_71 : decode cX4_printPagesOf 71 = .ok (.iload_n 3, 1) := by decide +kernel
theorem dX4_printPagesOf_72 : decode cX4_printPagesOf 72 = .ok (.ireturn, 1) := by decide +kernel
theorem dX4_printPagesOf_73 : decode cX4_printPagesOf 73 = .ok (.iinc 3 1, 3) := by decide +kernel
theorem dX4_printPagesOf_76 : decode cX4_printPagesOf 76 = .ok (.goto (-64), 3) := by decide +kernel
theorem dX4_printPagesOf_79 : decode cX4_printPagesOf 79 = .ok (.iload_n 2, 1) := by decide +kernel
theorem dX4_printPagesOf_80 : decode cX4_printPagesOf 80 = .ok (.ireturn, 1) := by decide +kernel
theorem dX4_isCup_0 : decode cX4_isCup 0 = .ok (.iload_n 0, 1) := by decide +kernel
theorem dX4_isCup_1 : decode cX4_isCup 1 = .ok (.ifCond .lt 12, 3) := by decide +kernel
theorem dX4_isCup_4 : decode cX4_isCup 4 = .ok (.iload_n 0, 1) := by decide +kernel
theorem dX4_isCup_5 : decode cX4_isCup 5 = .ok (.iconst 4, 1) := by decide +kernel
theorem dX4_isCup_6 : decode cX4_isCup 6 = .ok (.if_icmp .ge 7, 3) := by decide +kernel
theorem dX4_isCup_9 : decode cX4_isCup 9 = .ok (.iconst 1, 1) := by decide +kernel
theorem dX4_isCup_10 : decode cX4_isCup 10 = .ok (.goto 4, 3) := by decide +kernel
theorem dX4_isCup_13 : decode cX4_isCup 13 = .ok (.iconst 0, 1) := by decide +kernel
theorem dX4_isCup_14 : decode cX4_isCup 14 = .ok (.ireturn, 1) := by decide +kernel
theorem dX4_isPrinter_0 : decode cX4_isPrinter 0 = .ok (.iload_n 0, 1) := by decide +kernel
theorem dX4_isPrinter_1 : decode cX4_isPrinter 1 = .ok (.ifCond .lt 12, 3) := by decide +kernel
theorem dX4_isPrinter_4 : decode cX4_isPrinter 4 = .ok (.iload_n 0, 1) := by decide +kernel
theorem dX4_isPrinter_5 : decode cX4_isPrinter 5 = .ok (.iconst 2, 1) := by decide +kernel
theorem dX4_isPrinter_6 : decode cX4_isPrinter 6 = .ok (.if_icmp .ge 7, 3) := by decide +kernel
theorem dX4_isPrinter_9 : decode cX4_isPrinter 9 = .ok (.iconst 1, 1) := by decide +kernel
theorem dX4_isPrinter_10 : decode cX4_isPrinter 10 = .ok (.goto 4, 3) := by decide +kernel
theorem dX4_isPrinter_13 : decode cX4_isPrinter 13 = .ok (.iconst 0, 1) := by decide +kernel
theorem dX4_isPrinter_14 : decode cX4_isPrinter 14 = .ok (.ireturn, 1) := by decide +kernel
theorem dX4_isDots_0 : decode cX4_isDots 0 = .ok (.iload_n 0, 1) := by decide +kernel
theorem dX4_isDots_1 : decode cX4_isDots 1 = .ok (.iconst 1, 1) := by decide +kernel
theorem dX4_isDots_2 : decode cX4_isDots 2 = .ok (.if_icmp .lt 14, 3) := by decide +kernel
theorem dX4_isDots_5 : decode cX4_isDots 5 = .ok (.iload_n 0, 1) := by decide +kernel
theorem dX4_isDots_6 : decode cX4_isDots 6 = .ok (.sipush 999, 3) := by decide +kernel
theorem dX4_isDots_9 : decode cX4_isDots 9 = .ok (.if_icmp .gt 7, 3) := by decide +kernel
theorem dX4_isDots_12 : decode cX4_isDots 12 = .ok (.iconst 1, 1) := by decide +kernel
theorem dX4_isDots_13 : decode cX4_isDots 13 = .ok (.goto 4, 3) := by decide +kernel
theorem dX4_isDots_16 : decode cX4_isDots 16 = .ok (.iconst 0, 1) := by decide +kernel
theorem dX4_isDots_17 : decode cX4_isDots 17 = .ok (.ireturn, 1) := by decide +kernel
theorem dX4_isJobLength_0 : decode cX4_isJobLength 0 = .ok (.iload_n 0, 1) := by decide +kernel
theorem dX4_isJobLength_1 : decode cX4_isJobLength 1 = .ok (.iconst 1, 1) := by decide +kernel
theorem dX4_isJobLength_2 : decode cX4_isJobLength 2 = .ok (.if_icmp .lt 13, 3) := by decide +kernel
theorem dX4_isJobLength_5 : decode cX4_isJobLength 5 = .ok (.iload_n 0, 1) := by decide +kernel
theorem dX4_isJobLength_6 : decode cX4_isJobLength 6 = .ok (.bipush 50, 2) := by decide +kernel
theorem dX4_isJobLength_8 : decode cX4_isJobLength 8 = .ok (.if_icmp .gt 7, 3) := by decide +kernel
theorem dX4_isJobLength_11 : decode cX4_isJobLength 11 = .ok (.iconst 1, 1) := by decide +kernel
theorem dX4_isJobLength_12 : decode cX4_isJobLength 12 = .ok (.goto 4, 3) := by decide +kernel
theorem dX4_isJobLength_15 : decode cX4_isJobLength 15 = .ok (.iconst 0, 1) := by decide +kernel
theorem dX4_isJobLength_16 : decode cX4_isJobLength 16 = .ok (.ireturn, 1) := by decide +kernel
theorem dX4_share_0 : decode cX4_share 0 = .ok (.iload_n 1, 1) := by decide +kernel
theorem dX4_share_1 : decode cX4_share 1 = .ok (.ifCond .le 9, 3) := by decide +kernel
theorem dX4_share_4 : decode cX4_share 4 = .ok (.iload_n 0, 1) := by decide +kernel
theorem dX4_share_5 : decode cX4_share 5 = .ok (.iload_n 1, 1) := by decide +kernel
theorem dX4_share_6 : decode cX4_share 6 = .ok (.idiv, 1) := by decide +kernel
theorem dX4_share_7 : decode cX4_share 7 = .ok (.goto 4, 3) := by decide +kernel
theorem dX4_share_10 : decode cX4_share 10 = .ok (.iconst 0, 1) := by decide +kernel
theorem dX4_share_11 : decode cX4_share 11 = .ok (.ireturn, 1) := by decide +kernel
theorem dL_cell_0 : decode cL_cell 0 = .ok (.iload_n 1, 1) := by decide +kernel
theorem dL_cell_1 : decode cL_cell 1 = .ok (.aload_n 0, 1) := by decide +kernel
theorem dL_cell_2 : decode cL_cell 2 = .ok (.arraylength, 1) := by decide +kernel
theorem dL_cell_3 : decode cL_cell 3 = .ok (.if_icmp .ge 9, 3) := by decide +kernel
theorem dL_cell_6 : decode cL_cell 6 = .ok (.aload_n 0, 1) := by decide +kernel
theorem dL_cell_7 : decode cL_cell 7 = .ok (.iload_n 1, 1) := by decide +kernel
theorem dL_cell_8 : decode cL_cell 8 = .ok (.iaload, 1) := by decide +kernel
theorem dL_cell_9 : decode cL_cell 9 = .ok (.goto 13, 3) := by decide +kernel
theorem dL_cell_12 : decode cL_cell 12 = .ok (.ldc 7, 2) := by decide +kernel
theorem dL_cell_14 : decode cL_cell 14 = .ok (.iload_n 1, 1) := by decide +kernel
theorem dL_cell_15 : decode cL_cell 15 = .ok (.bipush 29, 2) := by decide +kernel
theorem dL_cell_17 : decode cL_cell 17 = .ok (.iadd, 1) := by decide +kernel
theorem dL_cell_18 : decode cL_cell 18 = .ok (.imul, 1) := by decide +kernel
theorem dL_cell_19 : decode cL_cell 19 = .ok (.bipush 61, 2) := by decide +kernel
theorem dL_cell_21 : decode cL_cell 21 = .ok (.iadd, 1) := by decide +kernel
theorem dL_cell_22 : decode cL_cell 22 = .ok (.ldc 8, 2) := by decide +kernel
theorem dL_cell_24 : decode cL_cell 24 = .ok (.iand, 1) := by decide +kernel
theorem dL_cell_25 : decode cL_cell 25 = .ok (.ireturn, 1) := by decide +kernel
theorem dL_acts_0 : decode cL_acts 0 = .ok (.iload_n 1, 1) := by decide +kernel
theorem dL_acts_1 : decode cL_acts 1 = .ok (.bipush 32, 2) := by decide +kernel
theorem dL_acts_3 : decode cL_acts 3 = .ok (.idiv, 1) := by decide +kernel
theorem dL_acts_4 : decode cL_acts 4 = .ok (.istore_n 2, 1) := by decide +kernel
theorem dL_acts_5 : decode cL_acts 5 = .ok (.iload_n 1, 1) := by decide +kernel
theorem dL_acts_6 : decode cL_acts 6 = .ok (.bipush 32, 2) := by decide +kernel
theorem dL_acts_8 : decode cL_acts 8 = .ok (.irem, 1) := by decide +kernel
theorem dL_acts_9 : decode cL_acts 9 = .ok (.tableswitch 556 0 18 #[91, 91, 91, 99, 99, 99, 112, 120, 120, 137, 137, 216, 216, 221, 226, 231, 231, 231, 231], 91) := by decide +kernel
theorem dL_acts_100 : decode cL_acts 100 = .ok (.aload_n 0, 1) := by decide +kernel
theorem dL_acts_101 : decode cL_acts 101 = .ok (.iload_n 2, 1) := by decide +kernel
theorem dL_acts_102 : decode cL_acts 102 = .ok (.iconst 4, 1) := by decide +kernel
theorem dL_acts_103 : decode cL_acts 103 = .ok (.irem, 1) := by decide +kernel
theorem dL_acts_104 : decode cL_acts 104 = .ok (.invokevirtual 9, 3) := by decide +kernel
theorem dL_acts_107 : decode cL_acts 107 = .ok (.ireturn, 1) := by decide +kernel
theorem dL_acts_108 : decode cL_acts 108 = .ok (.aload_n 0, 1) := by decide +kernel
theorem dL_acts_109 : decode cL_acts 109 = .ok (.iload_n 2, 1) := by decide +kernel
theorem dL_acts_110 : decode cL_acts 110 = .ok (.iconst 4, 1) := by decide +kernel
theorem dL_acts_111 : decode cL_acts 111 = .ok (.irem, 1) := by decide +kernel
theorem dL_acts_112 : decode cL_acts 112 = .ok (.iload_n 2, 1) := by decide +kernel
theorem dL_acts_113 : decode cL_acts 113 = .ok (.iconst 4, 1) := by decide +kernel
theorem dL_acts_114 : decode cL_acts 114 = .ok (.idiv, 1) := by decide +kernel
theorem dL_acts_115 : decode cL_acts 115 = .ok (.iconst 2, 1) := by decide +kernel
theorem dL_acts_116 : decode cL_acts 116 = .ok (.irem, 1) := by decide +kernel
theorem dL_acts_117 : decode cL_acts 117 = .ok (.invokevirtual 15, 3) := by decide +kernel
theorem dL_acts_120 : decode cL_acts 120 = .ok (.ireturn, 1) := by decide +kernel
theorem dL_acts_121 : decode cL_acts 121 = .ok (.aload_n 0, 1) := by decide +kernel
theorem dL_acts_122 : decode cL_acts 122 = .ok (.iload_n 2, 1) := by decide +kernel
theorem dL_acts_123 : decode cL_acts 123 = .ok (.iconst 2, 1) := by decide +kernel
theorem dL_acts_124 : decode cL_acts 124 = .ok (.irem, 1) := by decide +kernel
theorem dL_acts_125 : decode cL_acts 125 = .ok (.invokevirtual 19, 3) := by decide +kernel
theorem dL_acts_128 : decode cL_acts 128 = .ok (.ireturn, 1) := by decide +kernel
theorem dL_acts_129 : decode cL_acts 129 = .ok (.aload_n 0, 1) := by decide +kernel
theorem dL_acts_130 : decode cL_acts 130 = .ok (.iload_n 2, 1) := by decide +kernel
theorem dL_acts_131 : decode cL_acts 131 = .ok (.iconst 4, 1) := by decide +kernel
theorem dL_acts_132 : decode cL_acts 132 = .ok (.irem, 1) := by decide +kernel
theorem dL_acts_133 : decode cL_acts 133 = .ok (.iconst 1, 1) := by decide +kernel
theorem dL_acts_134 : decode cL_acts 134 = .ok (.iload_n 2, 1) := by decide +kernel
theorem dL_acts_135 : decode cL_acts 135 = .ok (.iconst 4, 1) := by decide +kernel
theorem dL_acts_136 : decode cL_acts 136 = .ok (.idiv, 1) := by decide +kernel
theorem dL_acts_137 : decode cL_acts 137 = .ok (.sipush 6000, 3) := by decide +kernel
theorem dL_acts_140 : decode cL_acts 140 = .ok (.irem, 1) := by decide +kernel
theorem dL_acts_141 : decode cL_acts 141 = .ok (.iadd, 1) := by decide +kernel
theorem dL_acts_142 : decode cL_acts 142 = .ok (.invokevirtual 22, 3) := by decide +kernel
theorem dL_acts_145 : decode cL_acts 145 = .ok (.ireturn, 1) := by decide +kernel
theorem dL_acts_146 : decode cL_acts 146 = .ok (.iload_n 2, 1) := by decide +kernel
theorem dL_acts_147 : decode cL_acts 147 = .ok (.iconst 4, 1) := by decide +kernel
theorem dL_acts_148 : decode cL_acts 148 = .ok (.irem, 1) := by decide +kernel
theorem dL_acts_149 : decode cL_acts 149 = .ok (.ifCond .ne 18, 3) := by decide +kernel
theorem dL_acts_152 : decode cL_acts 152 = .ok (.aload_n 0, 1) := by decide +kernel
theorem dL_acts_153 : decode cL_acts 153 = .ok (.iconst 0, 1) := by decide +kernel
theorem dL_acts_154 : decode cL_acts 154 = .ok (.iconst 1, 1) := by decide +kernel
theorem dL_acts_155 : decode cL_acts 155 = .ok (.iload_n 2, 1) := by decide +kernel
theorem dL_acts_156 : decode cL_acts 156 = .ok (.iconst 4, 1) := by decide +kernel
theorem dL_acts_157 : decode cL_acts 157 = .ok (.idiv, 1) := by decide +kernel
theorem dL_acts_158 : decode cL_acts 158 = .ok (.iconst 5, 1) := by decide +kernel
theorem dL_acts_159 : decode cL_acts 159 = .ok (.irem, 1) := by decide +kernel
theorem dL_acts_160 : decode cL_acts 160 = .ok (.iadd, 1) := by decide +kernel
theorem dL_acts_161 : decode cL_acts 161 = .ok (.invokevirtual 25, 3) := by decide +kernel
theorem dL_acts_164 : decode cL_acts 164 = .ok (.goto 60, 3) := by decide +kernel
theorem dL_acts_167 : decode cL_acts 167 = .ok (.iload_n 2, 1) := by decide +kernel
theorem dL_acts_168 : decode cL_acts 168 = .ok (.iconst 4, 1) := by decide +kernel
theorem dL_acts_169 : decode cL_acts 169 = .ok (.irem, 1) := by decide +kernel
theorem dL_acts_170 : decode cL_acts 170 = .ok (.iconst 1, 1) := by decide +kernel
theorem dL_acts_171 : decode cL_acts 171 = .ok (.if_icmp .ne 19, 3) := by decide +kernel
theorem dL_acts_174 : decode cL_acts 174 = .ok (.aload_n 0, 1) := by decide +kernel
theorem dL_acts_175 : decode cL_acts 175 = .ok (.iconst 1, 1) := by decide +kernel
theorem dL_acts_176 : decode cL_acts 176 = .ok (.iconst 2, 1) := by decide +kernel
theorem dL_acts_177 : decode cL_acts 177 = .ok (.iload_n 2, 1) := by decide +kernel
theorem dL_acts_178 : decode cL_acts 178 = .ok (.iconst 4, 1) := by decide +kernel
theorem dL_acts_179 : decode cL_acts 179 = .ok (.idiv, 1) := by decide +kernel
theorem dL_acts_180 : decode cL_acts 180 = .ok (.bipush 49, 2) := by decide +kernel
theorem dL_acts_182 : decode cL_acts 182 = .ok (.irem, 1) := by decide +kernel
theorem dL_acts_183 : decode cL_acts 183 = .ok (.iadd, 1) := by decide +kernel
theorem dL_acts_184 : decode cL_acts 184 = .ok (.invokevirtual 25, 3) := by decide +kernel
theorem dL_acts_187 : decode cL_acts 187 = .ok (.goto 37, 3) := by decide +kernel
theorem dL_acts_190 : decode cL_acts 190 = .ok (.iload_n 2, 1) := by decide +kernel
theorem dL_acts_191 : decode cL_acts 191 = .ok (.iconst 4, 1) := by decide +kernel
theorem dL_acts_192 : decode cL_acts 192 = .ok (.irem, 1) := by decide +kernel
theorem dL_acts_193 : decode cL_acts 193 = .ok (.iconst 2, 1) := by decide +kernel
theorem dL_acts_194 : decode cL_acts 194 = .ok (.if_icmp .ne 16, 3) := by decide +kernel
theorem dL_acts_197 : decode cL_acts 197 = .ok (.aload_n 0, 1) := by decide +kernel
theorem dL_acts_198 : decode cL_acts 198 = .ok (.iconst 2, 1) := by decide +kernel
theorem dL_acts_199 : decode cL_acts 199 = .ok (.iload_n 2, 1) := by decide +kernel
theorem dL_acts_200 : decode cL_acts 200 = .ok (.iconst 4, 1) := by decide +kernel
theorem dL_acts_201 : decode cL_acts 201 = .ok (.idiv, 1) := by decide +kernel
theorem dL_acts_202 : decode cL_acts 202 = .ok (.iconst 2, 1) := by decide +kernel
theorem dL_acts_203 : decode cL_acts 203 = .ok (.irem, 1) := by decide +kernel
theorem dL_acts_204 : decode cL_acts 204 = .ok (.invokevirtual 25, 3) := by decide +kernel
theorem dL_acts_207 : decode cL_acts 207 = .ok (.goto 17, 3) := by decide +kernel
theorem dL_acts_210 : decode cL_acts 210 = .ok (.aload_n 0, 1) := by decide +kernel
theorem dL_acts_211 : decode cL_acts 211 = .ok (.iconst 3, 1) := by decide +kernel
theorem dL_acts_212 : decode cL_acts 212 = .ok (.iconst 1, 1) := by decide +kernel
theorem dL_acts_213 : decode cL_acts 213 = .ok (.iload_n 2, 1) := by decide +kernel
theorem dL_acts_214 : decode cL_acts 214 = .ok (.iconst 4, 1) := by decide +kernel
theorem dL_acts_215 : decode cL_acts 215 = .ok (.idiv, 1) := by decide +kernel
theorem dL_acts_216 : decode cL_acts 216 = .ok (.sipush 500, 3) := by decide +kernel
theorem dL_acts_219 : decode cL_acts 219 = .ok (.irem, 1) := by decide +kernel
theorem dL_acts_220 : decode cL_acts 220 = .ok (.iadd, 1) := by decide +kernel
theorem dL_acts_221 : decode cL_acts 221 = .ok (.invokevirtual 25, 3) := by decide +kernel
theorem dL_acts_224 : decode cL_acts 224 = .ok (.ireturn, 1) := by decide +kernel
theorem dL_acts_225 : decode cL_acts 225 = .ok (.aload_n 0, 1) := by decide +kernel
theorem dL_acts_226 : decode cL_acts 226 = .ok (.invokevirtual 28, 3) := by decide +kernel
theorem dL_acts_229 : decode cL_acts 229 = .ok (.ireturn, 1) := by decide +kernel
theorem dL_acts_230 : decode cL_acts 230 = .ok (.aload_n 0, 1) := by decide +kernel
theorem dL_acts_231 : decode cL_acts 231 = .ok (.invokevirtual 32, 3) := by decide +kernel
theorem dL_acts_234 : decode cL_acts 234 = .ok (.ireturn, 1) := by decide +kernel
theorem dL_acts_235 : decode cL_acts 235 = .ok (.aload_n 0, 1) := by decide +kernel
theorem dL_acts_236 : decode cL_acts 236 = .ok (.invokevirtual 35, 3) := by decide +kernel
theorem dL_acts_239 : decode cL_acts 239 = .ok (.ireturn, 1) := by decide +kernel
theorem dL_acts_240 : decode cL_acts 240 = .ok (.aload_n 0, 1) := by decide +kernel
theorem dL_acts_241 : decode cL_acts 241 = .ok (.invokevirtual 38, 3) := by decide +kernel
theorem dL_acts_244 : decode cL_acts 244 = .ok (.istore_n 3, 1) := by decide +kernel
theorem dL_acts_245 : decode cL_acts 245 = .ok (.iconst 0, 1) := by decide +kernel
theorem dL_acts_246 : decode cL_acts 246 = .ok (.istore 4, 2) := by decide +kernel
theorem dL_acts_248 : decode cL_acts 248 = .ok (.iload 4, 2) := by decide +kernel
theorem dL_acts_250 : decode cL_acts 250 = .ok (.iconst 1, 1) := by decide +kernel
theorem dL_acts_251 : decode cL_acts 251 = .ok (.iload_n 2, 1) := by decide +kernel
theorem dL_acts_252 : decode cL_acts 252 = .ok (.iconst 4, 1) := by decide +kernel
theorem dL_acts_253 : decode cL_acts 253 = .ok (.irem, 1) := by decide +kernel
theorem dL_acts_254 : decode cL_acts 254 = .ok (.iadd, 1) := by decide +kernel
theorem dL_acts_255 : decode cL_acts 255 = .ok (.if_icmp .ge 286, 3) := by decide +kernel
theorem dL_acts_258 : decode cL_acts 258 = .ok (.iload_n 2, 1) := by decide +kernel
theorem dL_acts_259 : decode cL_acts 259 = .ok (.iconst 4, 1) := by decide +kernel
theorem dL_acts_260 : decode cL_acts 260 = .ok (.idiv, 1) := by decide +kernel
theorem dL_acts_261 : decode cL_acts 261 = .ok (.iconst 5, 1) := by decide +kernel
theorem dL_acts_262 : decode cL_acts 262 = .ok (.iload 4, 2) := by decide +kernel
theorem dL_acts_264 : decode cL_acts 264 = .ok (.imul, 1) := by decide +kernel
theorem dL_acts_265 : decode cL_acts 265 = .ok (.ishr, 1) := by decide +kernel
theorem dL_acts_266 : decode cL_acts 266 = .ok (.istore 5, 2) := by decide +kernel
theorem dL_acts_268 : decode cL_acts 268 = .ok (.iload 4, 2) := by decide +kernel
theorem dL_acts_270 : decode cL_acts 270 = .ok (.ifCond .le 12, 3) := by decide +kernel
theorem dL_acts_273 : decode cL_acts 273 = .ok (.aload_n 0, 1) := by decide +kernel
theorem dL_acts_274 : decode cL_acts 274 = .ok (.bipush 59, 2) := by decide +kernel
theorem dL_acts_276 : decode cL_acts 276 = .ok (.invokevirtual 41, 3) := by decide +kernel
theorem dL_acts_279 : decode cL_acts 279 = .ok (.goto 4, 3) := by decide +kernel
theorem dL_acts_282 : decode cL_acts 282 = .ok (.iconst 0, 1) := by decide +kernel
theorem dL_acts_283 : decode cL_acts 283 = .ok (.istore_n 3, 1) := by decide +kernel
theorem dL_acts_284 : decode cL_acts 284 = .ok (.iload 5, 2) := by decide +kernel
theorem dL_acts_286 : decode cL_acts 286 = .ok (.bipush 8, 2) := by decide +kernel
theorem dL_acts_288 : decode cL_acts 288 = .ok (.irem, 1) := by decide +kernel
theorem dL_acts_289 : decode cL_acts 289 = .ok (.iconst 5, 1) := by decide +kernel
theorem dL_acts_290 : decode cL_acts 290 = .ok (.if_icmp .ge 161, 3) := by decide +kernel
theorem dL_acts_293 : decode cL_acts 293 = .ok (.aload_n 0, 1) := by decide +kernel
theorem dL_acts_294 : decode cL_acts 294 = .ok (.bipush 112, 2) := by decide +kernel
theorem dL_acts_296 : decode cL_acts 296 = .ok (.invokevirtual 41, 3) := by decide +kernel
theorem dL_acts_299 : decode cL_acts 299 = .ok (.istore_n 3, 1) := by decide +kernel
theorem dL_acts_300 : decode cL_acts 300 = .ok (.aload_n 0, 1) := by decide +kernel
theorem dL_acts_301 : decode cL_acts 301 = .ok (.bipush 48, 2) := by decide +kernel
theorem dL_acts_303 : decode cL_acts 303 = .ok (.iload 5, 2) := by decide +kernel
theorem dL_acts_305 : decode cL_acts 305 = .ok (.bipush 8, 2) := by decide +kernel
theorem dL_acts_307 : decode cL_acts 307 = .ok (.idiv, 1) := by decide +kernel
theorem dL_acts_308 : decode cL_acts 308 = .ok (.iconst 2, 1) := by decide +kernel
theorem dL_acts_309 : decode cL_acts 309 = .ok (.irem, 1) := by decide +kernel
theorem dL_acts_310 : decode cL_acts 310 = .ok (.iadd, 1) := by decide +kernel
theorem dL_acts_311 : decode cL_acts 311 = .ok (.invokevirtual 41, 3) := by decide +kernel
theorem dL_acts_314 : decode cL_acts 314 = .ok (.istore_n 3, 1) := by decide +kernel
theorem dL_acts_315 : decode cL_acts 315 = .ok (.aload_n 0, 1) := by decide +kernel
theorem dL_acts_316 : decode cL_acts 316 = .ok (.bipush 58, 2) := by decide +kernel
theorem dL_acts_318 : decode cL_acts 318 = .ok (.invokevirtual 41, 3) := by decide +kernel
theorem dL_acts_321 : decode cL_acts 321 = .ok (.istore_n 3, 1) := by decide +kernel
theorem dL_acts_322 : decode cL_acts 322 = .ok (.aload_n 0, 1) := by decide +kernel
theorem dL_acts_323 : decode cL_acts 323 = .ok (.bipush 49, 2) := by decide +kernel
theorem dL_acts_325 : decode cL_acts 325 = .ok (.iload 5, 2) := by decide +kernel
theorem dL_acts_327 : decode cL_acts 327 = .ok (.bipush 16, 2) := by decide +kernel
theorem dL_acts_329 : decode cL_acts 329 = .ok (.idiv, 1) := by decide +kernel
theorem dL_acts_330 : decode cL_acts 330 = .ok (.bipush 9, 2) := by decide +kernel
theorem dL_acts_332 : decode cL_acts 332 = .ok (.irem, 1) := by decide +kernel
theorem dL_acts_333 : decode cL_acts 333 = .ok (.iadd, 1) := by decide +kernel
theorem dL_acts_334 : decode cL_acts 334 = .ok (.invokevirtual 41, 3) := by decide +kernel
theorem dL_acts_337 : decode cL_acts 337 = .ok (.istore_n 3, 1) := by decide +kernel
theorem dL_acts_338 : decode cL_acts 338 = .ok (.iload 5, 2) := by decide +kernel
theorem dL_acts_340 : decode cL_acts 340 = .ok (.bipush 8, 2) := by decide +kernel
theorem dL_acts_342 : decode cL_acts 342 = .ok (.irem, 1) := by decide +kernel
theorem dL_acts_343 : decode cL_acts 343 = .ok (.iconst 3, 1) := by decide +kernel
theorem dL_acts_344 : decode cL_acts 344 = .ok (.if_icmp .ge 21, 3) := by decide +kernel
theorem dL_acts_347 : decode cL_acts 347 = .ok (.aload_n 0, 1) := by decide +kernel
theorem dL_acts_348 : decode cL_acts 348 = .ok (.bipush 48, 2) := by decide +kernel
theorem dL_acts_350 : decode cL_acts 350 = .ok (.iload 5, 2) := by decide +kernel
theorem dL_acts_352 : decode cL_acts 352 = .ok (.bipush 32, 2) := by decide +kernel
theorem dL_acts_354 : decode cL_acts 354 = .ok (.idiv, 1) := by decide +kernel
theorem dL_acts_355 : decode cL_acts 355 = .ok (.bipush 10, 2) := by decide +kernel
theorem dL_acts_357 : decode cL_acts 357 = .ok (.irem, 1) := by decide +kernel
theorem dL_acts_358 : decode cL_acts 358 = .ok (.iadd, 1) := by decide +kernel
theorem dL_acts_359 : decode cL_acts 359 = .ok (.invokevirtual 41, 3) := by decide +kernel
theorem dL_acts_362 : decode cL_acts 362 = .ok (.goto 4, 3) := by decide +kernel
theorem dL_acts_365 : decode cL_acts 365 = .ok (.iload_n 3, 1) := by decide +kernel
theorem dL_acts_366 : decode cL_acts 366 = .ok (.istore_n 3, 1) := by decide +kernel
theorem dL_acts_367 : decode cL_acts 367 = .ok (.iload 5, 2) := by decide +kernel
theorem dL_acts_369 : decode cL_acts 369 = .ok (.bipush 8, 2) := by decide +kernel
theorem dL_acts_371 : decode cL_acts 371 = .ok (.irem, 1) := by decide +kernel
theorem dL_acts_372 : decode cL_acts 372 = .ok (.iconst 1, 1) := by decide +kernel
theorem dL_acts_373 : decode cL_acts 373 = .ok (.if_icmp .ge 21, 3) := by decide +kernel
theorem dL_acts_376 : decode cL_acts 376 = .ok (.aload_n 0, 1) := by decide +kernel
theorem dL_acts_377 : decode cL_acts 377 = .ok (.bipush 48, 2) := by decide +kernel
theorem dL_acts_379 : decode cL_acts 379 = .ok (.iload 5, 2) := by decide +kernel
theorem dL_acts_381 : decode cL_acts 381 = .ok (.bipush 64, 2) := by decide +kernel
theorem dL_acts_383 : decode cL_acts 383 = .ok (.idiv, 1) := by decide +kernel
theorem dL_acts_384 : decode cL_acts 384 = .ok (.bipush 10, 2) := by decide +kernel
theorem dL_acts_386 : decode cL_acts 386 = .ok (.irem, 1) := by decide +kernel
theorem dL_acts_387 : decode cL_acts 387 = .ok (.iadd, 1) := by decide +kernel
theorem dL_acts_388 : decode cL_acts 388 = .ok (.invokevirtual 41, 3) := by decide +kernel
theorem dL_acts_391 : decode cL_acts 391 = .ok (.goto 4, 3) := by decide +kernel
theorem dL_acts_394 : decode cL_acts 394 = .ok (.iload_n 3, 1) := by decide +kernel
theorem dL_acts_395 : decode cL_acts 395 = .ok (.istore_n 3, 1) := by decide +kernel
theorem dL_acts_396 : decode cL_acts 396 = .ok (.iload 5, 2) := by decide +kernel
theorem dL_acts_398 : decode cL_acts 398 = .ok (.bipush 16, 2) := by decide +kernel
theorem dL_acts_400 : decode cL_acts 400 = .ok (.idiv, 1) := by decide +kernel
theorem dL_acts_401 : decode cL_acts 401 = .ok (.iconst 3, 1) := by decide +kernel
theorem dL_acts_402 : decode cL_acts 402 = .ok (.irem, 1) := by decide +kernel
theorem dL_acts_403 : decode cL_acts 403 = .ok (.ifCond .ne 12, 3) := by decide +kernel
theorem dL_acts_406 : decode cL_acts 406 = .ok (.aload_n 0, 1) := by decide +kernel
theorem dL_acts_407 : decode cL_acts 407 = .ok (.bipush 120, 2) := by decide +kernel
theorem dL_acts_409 : decode cL_acts 409 = .ok (.invokevirtual 41, 3) := by decide +kernel
theorem dL_acts_412 : decode cL_acts 412 = .ok (.goto 4, 3) := by decide +kernel
theorem dL_acts_415 : decode cL_acts 415 = .ok (.iload_n 3, 1) := by decide +kernel
theorem dL_acts_416 : decode cL_acts 416 = .ok (.istore_n 3, 1) := by decide +kernel
theorem dL_acts_417 : decode cL_acts 417 = .ok (.iload 5, 2) := by decide +kernel
theorem dL_acts_419 : decode cL_acts 419 = .ok (.bipush 16, 2) := by decide +kernel
theorem dL_acts_421 : decode cL_acts 421 = .ok (.idiv, 1) := by decide +kernel
theorem dL_acts_422 : decode cL_acts 422 = .ok (.iconst 3, 1) := by decide +kernel
theorem dL_acts_423 : decode cL_acts 423 = .ok (.irem, 1) := by decide +kernel
theorem dL_acts_424 : decode cL_acts 424 = .ok (.ifCond .ne 22, 3) := by decide +kernel
theorem dL_acts_427 : decode cL_acts 427 = .ok (.aload_n 0, 1) := by decide +kernel
theorem dL_acts_428 : decode cL_acts 428 = .ok (.bipush 50, 2) := by decide +kernel
theorem dL_acts_430 : decode cL_acts 430 = .ok (.iload 5, 2) := by decide +kernel
theorem dL_acts_432 : decode cL_acts 432 = .ok (.sipush 128, 3) := by decide +kernel
theorem dL_acts_435 : decode cL_acts 435 = .ok (.idiv, 1) := by decide +kernel
theorem dL_acts_436 : decode cL_acts 436 = .ok (.bipush 8, 2) := by decide +kernel
theorem dL_acts_438 : decode cL_acts 438 = .ok (.irem, 1) := by decide +kernel
theorem dL_acts_439 : decode cL_acts 439 = .ok (.iadd, 1) := by decide +kernel
theorem dL_acts_440 : decode cL_acts 440 = .ok (.invokevirtual 41, 3) := by decide +kernel
theorem dL_acts_443 : decode cL_acts 443 = .ok (.goto 4, 3) := by decide +kernel
theorem dL_acts_446 : decode cL_acts 446 = .ok (.iload_n 3, 1) := by decide +kernel
theorem dL_acts_447 : decode cL_acts 447 = .ok (.istore_n 3, 1) := by decide +kernel
theorem dL_acts_448 : decode cL_acts 448 = .ok (.goto 87, 3) := by decide +kernel
theorem dL_acts_451 : decode cL_acts 451 = .ok (.aload_n 0, 1) := by decide +kernel
theorem dL_acts_452 : decode cL_acts 452 = .ok (.iload 5, 2) := by decide +kernel
theorem dL_acts_454 : decode cL_acts 454 = .ok (.bipush 8, 2) := by decide +kernel
theorem dL_acts_456 : decode cL_acts 456 = .ok (.irem, 1) := by decide +kernel
theorem dL_acts_457 : decode cL_acts 457 = .ok (.iconst 5, 1) := by decide +kernel
theorem dL_acts_458 : decode cL_acts 458 = .ok (.if_icmp .ne 8, 3) := by decide +kernel
theorem dL_acts_461 : decode cL_acts 461 = .ok (.bipush 115, 2) := by decide +kernel
theorem dL_acts_463 : decode cL_acts 463 = .ok (.goto 5, 3) := by decide +kernel
theorem dL_acts_466 : decode cL_acts 466 = .ok (.bipush 109, 2) := by decide +kernel
theorem dL_acts_468 : decode cL_acts 468 = .ok (.invokevirtual 41, 3) := by decide +kernel
theorem dL_acts_471 : decode cL_acts 471 = .ok (.istore_n 3, 1) := by decide +kernel
theorem dL_acts_472 : decode cL_acts 472 = .ok (.aload_n 0, 1) := by decide +kernel
theorem dL_acts_473 : decode cL_acts 473 = .ok (.bipush 48, 2) := by decide +kernel
theorem dL_acts_475 : decode cL_acts 475 = .ok (.iload 5, 2) := by decide +kernel
theorem dL_acts_477 : decode cL_acts 477 = .ok (.bipush 8, 2) := by decide +kernel
theorem dL_acts_479 : decode cL_acts 479 = .ok (.idiv, 1) := by decide +kernel
theorem dL_acts_480 : decode cL_acts 480 = .ok (.iconst 4, 1) := by decide +kernel
theorem dL_acts_481 : decode cL_acts 481 = .ok (.irem, 1) := by decide +kernel
theorem dL_acts_482 : decode cL_acts 482 = .ok (.iadd, 1) := by decide +kernel
theorem dL_acts_483 : decode cL_acts 483 = .ok (.invokevirtual 41, 3) := by decide +kernel
theorem dL_acts_486 : decode cL_acts 486 = .ok (.istore_n 3, 1) := by decide +kernel
theorem dL_acts_487 : decode cL_acts 487 = .ok (.iload 5, 2) := by decide +kernel
theorem dL_acts_489 : decode cL_acts 489 = .ok (.bipush 8, 2) := by decide +kernel
theorem dL_acts_491 : decode cL_acts 491 = .ok (.irem, 1) := by decide +kernel
theorem dL_acts_492 : decode cL_acts 492 = .ok (.iconst 5, 1) := by decide +kernel
theorem dL_acts_493 : decode cL_acts 493 = .ok (.if_icmp .le 12, 3) := by decide +kernel
theorem dL_acts_496 : decode cL_acts 496 = .ok (.aload_n 0, 1) := by decide +kernel
theorem dL_acts_497 : decode cL_acts 497 = .ok (.bipush 62, 2) := by decide +kernel
theorem dL_acts_499 : decode cL_acts 499 = .ok (.invokevirtual 41, 3) := by decide +kernel
theorem dL_acts_502 : decode cL_acts 502 = .ok (.goto 4, 3) := by decide +kernel
theorem dL_acts_505 : decode cL_acts 505 = .ok (.iload_n 3, 1) := by decide +kernel
