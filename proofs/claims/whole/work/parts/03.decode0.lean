theorem dX0_init_0 : decode cX0_init 0 = .ok (.aload_n 0, 1) := by decide +kernel
theorem dX0_init_1 : decode cX0_init 1 = .ok (.invokespecial 3, 3) := by decide +kernel
theorem dX0_init_4 : decode cX0_init 4 = .ok (.aload_n 0, 1) := by decide +kernel
theorem dX0_init_5 : decode cX0_init 5 = .ok (.bipush 7, 2) := by decide +kernel
theorem dX0_init_7 : decode cX0_init 7 = .ok (.newarray .int, 2) := by decide +kernel
theorem dX0_init_9 : decode cX0_init 9 = .ok (.putfield 9, 3) := by decide +kernel
theorem dX0_init_12 : decode cX0_init 12 = .ok (.aload_n 0, 1) := by decide +kernel
theorem dX0_init_13 : decode cX0_init 13 = .ok (.bipush 7, 2) := by decide +kernel
theorem dX0_init_15 : decode cX0_init 15 = .ok (.newarray .int, 2) := by decide +kernel
theorem dX0_init_17 : decode cX0_init 17 = .ok (.putfield 15, 3) := by decide +kernel
theorem dX0_init_20 : decode cX0_init 20 = .ok (.aload_n 0, 1) := by decide +kernel
theorem dX0_init_21 : decode cX0_init 21 = .ok (.bipush 7, 2) := by decide +kernel
theorem dX0_init_23 : decode cX0_init 23 = .ok (.newarray .int, 2) := by decide +kernel
theorem dX0_init_25 : decode cX0_init 25 = .ok (.putfield 18, 3) := by decide +kernel
theorem dX0_init_28 : decode cX0_init 28 = .ok (.aload_n 0, 1) := by decide +kernel
theorem dX0_init_29 : decode cX0_init 29 = .ok (.bipush 7, 2) := by decide +kernel
theorem dX0_init_31 : decode cX0_init 31 = .ok (.newarray .int, 2) := by decide +kernel
theorem dX0_init_33 : decode cX0_init 33 = .ok (.putfield 21, 3) := by decide +kernel
theorem dX0_init_36 : decode cX0_init 36 = .ok (.aload_n 0, 1) := by decide +kernel
theorem dX0_init_37 : decode cX0_init 37 = .ok (.bipush 7, 2) := by decide +kernel
theorem dX0_init_39 : decode cX0_init 39 = .ok (.newarray .int, 2) := by decide +kernel
theorem dX0_init_41 : decode cX0_init 41 = .ok (.putfield 24, 3) := by decide +kernel
theorem dX0_init_44 : decode cX0_init 44 = .ok (.aload_n 0, 1) := by decide +kernel
theorem dX0_init_45 : decode cX0_init 45 = .ok (.bipush 7, 2) := by decide +kernel
theorem dX0_init_47 : decode cX0_init 47 = .ok (.newarray .int, 2) := by decide +kernel
theorem dX0_init_49 : decode cX0_init 49 = .ok (.putfield 27, 3) := by decide +kernel
theorem dX0_init_52 : decode cX0_init 52 = .ok (.aload_n 0, 1) := by decide +kernel
theorem dX0_init_53 : decode cX0_init 53 = .ok (.iconst 0, 1) := by decide +kernel
theorem dX0_init_54 : decode cX0_init 54 = .ok (.putfield 30, 3) := by decide +kernel
theorem dX0_init_57 : decode cX0_init 57 = .ok (.aload_n 0, 1) := by decide +kernel
theorem dX0_init_58 : decode cX0_init 58 = .ok (.iconst 0, 1) := by decide +kernel
theorem dX0_init_59 : decode cX0_init 59 = .ok (.putfield 34, 3) := by decide +kernel
theorem dX0_init_62 : decode cX0_init 62 = .ok (.return_, 1) := by decide +kernel
theorem dX0_has_0 : decode cX0_has 0 = .ok (.iload_n 1, 1) := by decide +kernel
theorem dX0_has_1 : decode cX0_has 1 = .ok (.ifCond .lt 15, 3) := by decide +kernel
theorem dX0_has_4 : decode cX0_has 4 = .ok (.iload_n 1, 1) := by decide +kernel
theorem dX0_has_5 : decode cX0_has 5 = .ok (.aload_n 0, 1) := by decide +kernel
theorem dX0_has_6 : decode cX0_has 6 = .ok (.getfield 30, 3) := by decide +kernel
theorem dX0_has_9 : decode cX0_has 9 = .ok (.if_icmp .ge 7, 3) := by decide +kernel
theorem dX0_has_12 : decode cX0_has 12 = .ok (.iconst 1, 1) := by decide +kernel
theorem dX0_has_13 : decode cX0_has 13 = .ok (.goto 4, 3) := by decide +kernel
theorem dX0_has_16 : decode cX0_has 16 = .ok (.iconst 0, 1) := by decide +kernel
theorem dX0_has_17 : decode cX0_has 17 = .ok (.ireturn, 1) := by decide +kernel
theorem dX0_canHave_0 : decode cX0_canHave 0 = .ok (.iload_n 2, 1) := by decide +kernel
theorem dX0_canHave_1 : decode cX0_canHave 1 = .ok (.ifCond .lt 19, 3) := by decide +kernel
theorem dX0_canHave_4 : decode cX0_canHave 4 = .ok (.iload_n 2, 1) := by decide +kernel
theorem dX0_canHave_5 : decode cX0_canHave 5 = .ok (.iconst 1, 1) := by decide +kernel
theorem dX0_canHave_6 : decode cX0_canHave 6 = .ok (.aload_n 0, 1) := by decide +kernel
theorem dX0_canHave_7 : decode cX0_canHave 7 = .ok (.getfield 15, 3) := by decide +kernel
theorem dX0_canHave_10 : decode cX0_canHave 10 = .ok (.iload_n 1, 1) := by decide +kernel
theorem dX0_canHave_11 : decode cX0_canHave 11 = .ok (.iaload, 1) := by decide +kernel
theorem dX0_canHave_12 : decode cX0_canHave 12 = .ok (.ishl, 1) := by decide +kernel
theorem dX0_canHave_13 : decode cX0_canHave 13 = .ok (.if_icmp .ge 7, 3) := by decide +kernel
theorem dX0_canHave_16 : decode cX0_canHave 16 = .ok (.iconst 1, 1) := by decide +kernel
theorem dX0_canHave_17 : decode cX0_canHave 17 = .ok (.goto 4, 3) := by decide +kernel
theorem dX0_canHave_20 : decode cX0_canHave 20 = .ok (.iconst 0, 1) := by decide +kernel
theorem dX0_canHave_21 : decode cX0_canHave 21 = .ok (.ireturn, 1) := by decide +kernel
theorem dX0_read_0 : decode cX0_read 0 = .ok (.aload_n 0, 1) := by decide +kernel
theorem dX0_read_1 : decode cX0_read 1 = .ok (.iconst 0, 1) := by decide +kernel
theorem dX0_read_2 : decode cX0_read 2 = .ok (.putfield 30, 3) := by decide +kernel
theorem dX0_read_5 : decode cX0_read 5 = .ok (.iconst 0, 1) := by decide +kernel
theorem dX0_read_6 : decode cX0_read 6 = .ok (.istore_n 3, 1) := by decide +kernel
theorem dX0_read_7 : decode cX0_read 7 = .ok (.iconst 0, 1) := by decide +kernel
theorem dX0_read_8 : decode cX0_read 8 = .ok (.istore 4, 2) := by decide +kernel
theorem dX0_read_10 : decode cX0_read 10 = .ok (.iload 4, 2) := by decide +kernel
theorem dX0_read_12 : decode cX0_read 12 = .ok (.iload_n 2, 1) := by decide +kernel
theorem dX0_read_13 : decode cX0_read 13 = .ok (.if_icmp .ge 86, 3) := by decide +kernel
theorem dX0_read_16 : decode cX0_read 16 = .ok (.iload 4, 2) := by decide +kernel
theorem dX0_read_18 : decode cX0_read 18 = .ok (.aload_n 1, 1) := by decide +kernel
theorem dX0_read_19 : decode cX0_read 19 = .ok (.arraylength, 1) := by decide +kernel
theorem dX0_read_20 : decode cX0_read 20 = .ok (.if_icmp .ge 79, 3) := by decide +kernel
theorem dX0_read_23 : decode cX0_read 23 = .ok (.aload_n 1, 1) := by decide +kernel
theorem dX0_read_24 : decode cX0_read 24 = .ok (.iload 4, 2) := by decide +kernel
theorem dX0_read_26 : decode cX0_read 26 = .ok (.baload, 1) := by decide +kernel
theorem dX0_read_27 : decode cX0_read 27 = .ok (.istore 5, 2) := by decide +kernel
theorem dX0_read_29 : decode cX0_read 29 = .ok (.iload_n 3, 1) := by decide +kernel
theorem dX0_read_30 : decode cX0_read 30 = .ok (.ifCond .ne 13, 3) := by decide +kernel
theorem dX0_read_33 : decode cX0_read 33 = .ok (.iload 5, 2) := by decide +kernel
theorem dX0_read_35 : decode cX0_read 35 = .ok (.bipush 32, 2) := by decide +kernel
theorem dX0_read_37 : decode cX0_read 37 = .ok (.if_icmp .ne 6, 3) := by decide +kernel
theorem dX0_read_40 : decode cX0_read 40 = .ok (.goto 53, 3) := by decide +kernel
theorem dX0_read_43 : decode cX0_read 43 = .ok (.aload_n 0, 1) := by decide +kernel
theorem dX0_read_44 : decode cX0_read 44 = .ok (.getfield 30, 3) := by decide +kernel
theorem dX0_read_47 : decode cX0_read 47 = .ok (.bipush 7, 2) := by decide +kernel
theorem dX0_read_49 : decode cX0_read 49 = .ok (.if_icmp .eq 13, 3) := by decide +kernel
theorem dX0_read_52 : decode cX0_read 52 = .ok (.aload_n 0, 1) := by decide +kernel
theorem dX0_read_53 : decode cX0_read 53 = .ok (.iload 5, 2) := by decide +kernel
theorem dX0_read_55 : decode cX0_read 55 = .ok (.iload_n 3, 1) := by decide +kernel
theorem dX0_read_56 : decode cX0_read 56 = .ok (.invokevirtual 37, 3) := by decide +kernel
theorem dX0_read_59 : decode cX0_read 59 = .ok (.ifCond .ne 6, 3) := by decide +kernel
theorem dX0_read_62 : decode cX0_read 62 = .ok (.iload 4, 2) := by decide +kernel
theorem dX0_read_64 : decode cX0_read 64 = .ok (.ireturn, 1) := by decide +kernel
theorem dX0_read_65 : decode cX0_read 65 = .ok (.iload_n 3, 1) := by decide +kernel
theorem dX0_read_66 : decode cX0_read 66 = .ok (.iconst 2, 1) := by decide +kernel
theorem dX0_read_67 : decode cX0_read 67 = .ok (.if_icmp .ne 13, 3) := by decide +kernel
theorem dX0_read_70 : decode cX0_read 70 = .ok (.aload_n 0, 1) := by decide +kernel
theorem dX0_read_71 : decode cX0_read 71 = .ok (.dup, 1) := by decide +kernel
theorem dX0_read_72 : decode cX0_read 72 = .ok (.getfield 30, 3) := by decide +kernel
theorem dX0_read_75 : decode cX0_read 75 = .ok (.iconst 1, 1) := by decide +kernel
theorem dX0_read_76 : decode cX0_read 76 = .ok (.iadd, 1) := by decide +kernel
theorem dX0_read_77 : decode cX0_read 77 = .ok (.putfield 30, 3) := by decide +kernel
theorem dX0_read_80 : decode cX0_read 80 = .ok (.iload_n 3, 1) := by decide +kernel
theorem dX0_read_81 : decode cX0_read 81 = .ok (.iconst 2, 1) := by decide +kernel
theorem dX0_read_82 : decode cX0_read 82 = .ok (.if_icmp .ne 7, 3) := by decide +kernel
theorem dX0_read_85 : decode cX0_read 85 = .ok (.iconst 0, 1) := by decide +kernel
theorem dX0_read_86 : decode cX0_read 86 = .ok (.goto 6, 3) := by decide +kernel
theorem dX0_read_89 : decode cX0_read 89 = .ok (.iload_n 3, 1) := by decide +kernel
theorem dX0_read_90 : decode cX0_read 90 = .ok (.iconst 1, 1) := by decide +kernel
theorem dX0_read_91 : decode cX0_read 91 = .ok (.iadd, 1) := by decide +kernel
theorem dX0_read_92 : decode cX0_read 92 = .ok (.istore_n 3, 1) := by decide +kernel
theorem dX0_read_93 : decode cX0_read 93 = .ok (.iinc 4 1, 3) := by decide +kernel
theorem dX0_read_96 : decode cX0_read 96 = .ok (.goto (-86), 3) := by decide +kernel
theorem dX0_read_99 : decode cX0_read 99 = .ok (.iload_n 3, 1) := by decide +kernel
theorem dX0_read_100 : decode cX0_read 100 = .ok (.ifCond .ne 16, 3) := by decide +kernel
theorem dX0_read_103 : decode cX0_read 103 = .ok (.aload_n 0, 1) := by decide +kernel
theorem dX0_read_104 : decode cX0_read 104 = .ok (.getfield 30, 3) := by decide +kernel
theorem dX0_read_107 : decode cX0_read 107 = .ok (.iconst 2, 1) := by decide +kernel
theorem dX0_read_108 : decode cX0_read 108 = .ok (.if_icmp .lt 8, 3) := by decide +kernel
theorem dX0_read_111 : decode cX0_read 111 = .ok (.bipush (-9), 2) := by decide +kernel
theorem dX0_read_113 : decode cX0_read 113 = .ok (.goto 4, 3) := by decide +kernel
theorem dX0_read_116 : decode cX0_read 116 = .ok (.iload_n 2, 1) := by decide +kernel
theorem dX0_read_117 : decode cX0_read 117 = .ok (.ireturn, 1) := by decide +kernel
theorem dX0_takeSign_0 : decode cX0_takeSign 0 = .ok (.iload_n 2, 1) := by decide +kernel
theorem dX0_takeSign_1 : decode cX0_takeSign 1 = .ok (.ifCond .ne 29, 3) := by decide +kernel
theorem dX0_takeSign_4 : decode cX0_takeSign 4 = .ok (.iload_n 1, 1) := by decide +kernel
theorem dX0_takeSign_5 : decode cX0_takeSign 5 = .ok (.invokestatic 41, 3) := by decide +kernel
theorem dX0_takeSign_8 : decode cX0_takeSign 8 = .ok (.istore_n 3, 1) := by decide +kernel
theorem dX0_takeSign_9 : decode cX0_takeSign 9 = .ok (.aload_n 0, 1) := by decide +kernel
theorem dX0_takeSign_10 : decode cX0_takeSign 10 = .ok (.getfield 9, 3) := by decide +kernel
theorem dX0_takeSign_13 : decode cX0_takeSign 13 = .ok (.aload_n 0, 1) := by decide +kernel
theorem dX0_takeSign_14 : decode cX0_takeSign 14 = .ok (.getfield 30, 3) := by decide +kernel
theorem dX0_takeSign_17 : decode cX0_takeSign 17 = .ok (.iload_n 3, 1) := by decide +kernel
theorem dX0_takeSign_18 : decode cX0_takeSign 18 = .ok (.iastore, 1) := by decide +kernel
theorem dX0_takeSign_19 : decode cX0_takeSign 19 = .ok (.iload_n 3, 1) := by decide +kernel
theorem dX0_takeSign_20 : decode cX0_takeSign 20 = .ok (.iconst (-1), 1) := by decide +kernel
theorem dX0_takeSign_21 : decode cX0_takeSign 21 = .ok (.if_icmp .eq 7, 3) := by decide +kernel
theorem dX0_takeSign_24 : decode cX0_takeSign 24 = .ok (.iconst 1, 1) := by decide +kernel
theorem dX0_takeSign_25 : decode cX0_takeSign 25 = .ok (.goto 4, 3) := by decide +kernel
theorem dX0_takeSign_28 : decode cX0_takeSign 28 = .ok (.iconst 0, 1) := by decide +kernel
theorem dX0_takeSign_29 : decode cX0_takeSign 29 = .ok (.ireturn, 1) := by decide +kernel
theorem dX0_takeSign_30 : decode cX0_takeSign 30 = .ok (.iload_n 2, 1) := by decide +kernel
theorem dX0_takeSign_31 : decode cX0_takeSign 31 = .ok (.iconst 1, 1) := by decide +kernel
theorem dX0_takeSign_32 : decode cX0_takeSign 32 = .ok (.if_icmp .ne 8, 3) := by decide +kernel
theorem dX0_takeSign_35 : decode cX0_takeSign 35 = .ok (.bipush 50, 2) := by decide +kernel
theorem dX0_takeSign_37 : decode cX0_takeSign 37 = .ok (.goto 5, 3) := by decide +kernel
theorem dX0_takeSign_40 : decode cX0_takeSign 40 = .ok (.bipush 48, 2) := by decide +kernel
theorem dX0_takeSign_42 : decode cX0_takeSign 42 = .ok (.istore_n 3, 1) := by decide +kernel
theorem dX0_takeSign_43 : decode cX0_takeSign 43 = .ok (.iload_n 2, 1) := by decide +kernel
theorem dX0_takeSign_44 : decode cX0_takeSign 44 = .ok (.iconst 1, 1) := by decide +kernel
theorem dX0_takeSign_45 : decode cX0_takeSign 45 = .ok (.if_icmp .ne 19, 3) := by decide +kernel
theorem dX0_takeSign_48 : decode cX0_takeSign 48 = .ok (.aload_n 0, 1) := by decide +kernel
theorem dX0_takeSign_49 : decode cX0_takeSign 49 = .ok (.getfield 15, 3) := by decide +kernel
theorem dX0_takeSign_52 : decode cX0_takeSign 52 = .ok (.aload_n 0, 1) := by decide +kernel
theorem dX0_takeSign_53 : decode cX0_takeSign 53 = .ok (.getfield 30, 3) := by decide +kernel
theorem dX0_takeSign_56 : decode cX0_takeSign 56 = .ok (.iload_n 1, 1) := by decide +kernel
theorem dX0_takeSign_57 : decode cX0_takeSign 57 = .ok (.bipush 48, 2) := by decide +kernel
theorem dX0_takeSign_59 : decode cX0_takeSign 59 = .ok (.isub, 1) := by decide +kernel
theorem dX0_takeSign_60 : decode cX0_takeSign 60 = .ok (.iastore, 1) := by decide +kernel
theorem dX0_takeSign_61 : decode cX0_takeSign 61 = .ok (.goto 16, 3) := by decide +kernel
theorem dX0_takeSign_64 : decode cX0_takeSign 64 = .ok (.aload_n 0, 1) := by decide +kernel
theorem dX0_takeSign_65 : decode cX0_takeSign 65 = .ok (.getfield 18, 3) := by decide +kernel
theorem dX0_takeSign_68 : decode cX0_takeSign 68 = .ok (.aload_n 0, 1) := by decide +kernel
theorem dX0_takeSign_69 : decode cX0_takeSign 69 = .ok (.getfield 30, 3) := by decide +kernel
theorem dX0_takeSign_72 : decode cX0_takeSign 72 = .ok (.iload_n 1, 1) := by decide +kernel
theorem dX0_takeSign_73 : decode cX0_takeSign 73 = .ok (.bipush 48, 2) := by decide +kernel
theorem dX0_takeSign_75 : decode cX0_takeSign 75 = .ok (.isub, 1) := by decide +kernel
theorem dX0_takeSign_76 : decode cX0_takeSign 76 = .ok (.iastore, 1) := by decide +kernel
theorem dX0_takeSign_77 : decode cX0_takeSign 77 = .ok (.iload_n 1, 1) := by decide +kernel
theorem dX0_takeSign_78 : decode cX0_takeSign 78 = .ok (.iload_n 3, 1) := by decide +kernel
theorem dX0_takeSign_79 : decode cX0_takeSign 79 = .ok (.if_icmp .lt 13, 3) := by decide +kernel
theorem dX0_takeSign_82 : decode cX0_takeSign 82 = .ok (.iload_n 1, 1) := by decide +kernel
theorem dX0_takeSign_83 : decode cX0_takeSign 83 = .ok (.bipush 57, 2) := by decide +kernel
theorem dX0_takeSign_85 : decode cX0_takeSign 85 = .ok (.if_icmp .gt 7, 3) := by decide +kernel
theorem dX0_takeSign_88 : decode cX0_takeSign 88 = .ok (.iconst 1, 1) := by decide +kernel
theorem dX0_takeSign_89 : decode cX0_takeSign 89 = .ok (.goto 4, 3) := by decide +kernel
theorem dX0_takeSign_92 : decode cX0_takeSign 92 = .ok (.iconst 0, 1) := by decide +kernel
theorem dX0_takeSign_93 : decode cX0_takeSign 93 = .ok (.ireturn, 1) := by decide +kernel
theorem dX0_kindOf_0 : decode cX0_kindOf 0 = .ok (.iconst 0, 1) := by decide +kernel
theorem dX0_kindOf_1 : decode cX0_kindOf 1 = .ok (.istore_n 1, 1) := by decide +kernel
theorem dX0_kindOf_2 : decode cX0_kindOf 2 = .ok (.iload_n 1, 1) := by decide +kernel
theorem dX0_kindOf_3 : decode cX0_kindOf 3 = .ok (.getstatic 45, 3) := by decide +kernel
theorem dX0_kindOf_6 : decode cX0_kindOf 6 = .ok (.arraylength, 1) := by decide +kernel
theorem dX0_kindOf_7 : decode cX0_kindOf 7 = .ok (.if_icmp .ge 20, 3) := by decide +kernel
theorem dX0_kindOf_10 : decode cX0_kindOf 10 = .ok (.getstatic 45, 3) := by decide +kernel
theorem dX0_kindOf_13 : decode cX0_kindOf 13 = .ok (.iload_n 1, 1) := by decide +kernel
theorem dX0_kindOf_14 : decode cX0_kindOf 14 = .ok (.baload, 1) := by decide +kernel
theorem dX0_kindOf_15 : decode cX0_kindOf 15 = .ok (.iload_n 0, 1) := by decide +kernel
theorem dX0_kindOf_16 : decode cX0_kindOf 16 = .ok (.if_icmp .ne 5, 3) := by decide +kernel
theorem dX0_kindOf_19 : decode cX0_kindOf 19 = .ok (.iload_n 1, 1) := by decide +kernel
theorem dX0_kindOf_20 : decode cX0_kindOf 20 = .ok (.ireturn, 1) := by decide +kernel
theorem dX0_kindOf_21 : decode cX0_kindOf 21 = .ok (.iinc 1 1, 3) := by decide +kernel
theorem dX0_kindOf_24 : decode cX0_kindOf 24 = .ok (.goto (-22), 3) := by decide +kernel
theorem dX0_kindOf_27 : decode cX0_kindOf 27 = .ok (.iconst (-1), 1) := by decide +kernel
theorem dX0_kindOf_28 : decode cX0_kindOf 28 = .ok (.ireturn, 1) := by decide +kernel
theorem dX0_beginAnew_0 : decode cX0_beginAnew 0 = .ok (.iconst 0, 1) := by decide +kernel
theorem dX0_beginAnew_1 : decode cX0_beginAnew 1 = .ok (.istore_n 1, 1) := by decide +kernel
theorem dX0_beginAnew_2 : decode cX0_beginAnew 2 = .ok (.iload_n 1, 1) := by decide +kernel
theorem dX0_beginAnew_3 : decode cX0_beginAnew 3 = .ok (.bipush 7, 2) := by decide +kernel
theorem dX0_beginAnew_5 : decode cX0_beginAnew 5 = .ok (.if_icmp .ge 23, 3) := by decide +kernel
theorem dX0_beginAnew_8 : decode cX0_beginAnew 8 = .ok (.aload_n 0, 1) := by decide +kernel
theorem dX0_beginAnew_9 : decode cX0_beginAnew 9 = .ok (.getfield 21, 3) := by decide +kernel
theorem dX0_beginAnew_12 : decode cX0_beginAnew 12 = .ok (.iload_n 1, 1) := by decide +kernel
theorem dX0_beginAnew_13 : decode cX0_beginAnew 13 = .ok (.iconst 0, 1) := by decide +kernel
theorem dX0_beginAnew_14 : decode cX0_beginAnew 14 = .ok (.iastore, 1) := by decide +kernel
theorem dX0_beginAnew_15 : decode cX0_beginAnew 15 = .ok (.aload_n 0, 1) := by decide +kernel
theorem dX0_beginAnew_16 : decode cX0_beginAnew 16 = .ok (.getfield 24, 3) := by decide +kernel
theorem dX0_beginAnew_19 : decode cX0_beginAnew 19 = .ok (.iload_n 1, 1) := by decide +kernel
theorem dX0_beginAnew_20 : decode cX0_beginAnew 20 = .ok (.iload_n 1, 1) := by decide +kernel
theorem dX0_beginAnew_21 : decode cX0_beginAnew 21 = .ok (.iastore, 1) := by decide +kernel
theorem dX0_beginAnew_22 : decode cX0_beginAnew 22 = .ok (.iinc 1 1, 3) := by decide +kernel
theorem dX0_beginAnew_25 : decode cX0_beginAnew 25 = .ok (.goto (-23), 3) := by decide +kernel
theorem dX0_beginAnew_28 : decode cX0_beginAnew 28 = .ok (.aload_n 0, 1) := by decide +kernel
theorem dX0_beginAnew_29 : decode cX0_beginAnew 29 = .ok (.iconst 0, 1) := by decide +kernel
theorem dX0_beginAnew_30 : decode cX0_beginAnew 30 = .ok (.putfield 34, 3) := by decide +kernel
theorem dX0_beginAnew_33 : decode cX0_beginAnew 33 = .ok (.return_, 1) := by decide +kernel
theorem dX0_takeFrom_0 : decode cX0_takeFrom 0 = .ok (.aload_n 1, 1) := by decide +kernel
theorem dX0_takeFrom_1 : decode cX0_takeFrom 1 = .ok (.getfield 9, 3) := by decide +kernel
theorem dX0_takeFrom_4 : decode cX0_takeFrom 4 = .ok (.iconst 0, 1) := by decide +kernel
theorem dX0_takeFrom_5 : decode cX0_takeFrom 5 = .ok (.aload_n 0, 1) := by decide +kernel
theorem dX0_takeFrom_6 : decode cX0_takeFrom 6 = .ok (.getfield 9, 3) := by decide +kernel
theorem dX0_takeFrom_9 : decode cX0_takeFrom 9 = .ok (.iconst 0, 1) := by decide +kernel
theorem dX0_takeFrom_10 : decode cX0_takeFrom 10 = .ok (.bipush 7, 2) := by decide +kernel
theorem dX0_takeFrom_12 : decode cX0_takeFrom 12 = .ok (.invokestatic 49, 3) := by decide +kernel
theorem dX0_takeFrom_15 : decode cX0_takeFrom 15 = .ok (.aload_n 1, 1) := by decide +kernel
theorem dX0_takeFrom_16 : decode cX0_takeFrom 16 = .ok (.getfield 15, 3) := by decide +kernel
theorem dX0_takeFrom_19 : decode cX0_takeFrom 19 = .ok (.iconst 0, 1) := by decide +kernel
theorem dX0_takeFrom_20 : decode cX0_takeFrom 20 = .ok (.aload_n 0, 1) := by decide +kernel
theorem dX0_takeFrom_21 : decode cX0_takeFrom 21 = .ok (.getfield 15, 3) := by decide +kernel
theorem dX0_takeFrom_24 : decode cX0_takeFrom 24 = .ok (.iconst 0, 1) := by decide +kernel
theorem dX0_takeFrom_25 : decode cX0_takeFrom 25 = .ok (.bipush 7, 2) := by decide +kernel
theorem dX0_takeFrom_27 : decode cX0_takeFrom 27 = .ok (.invokestatic 49, 3) := by decide +kernel
theorem dX0_takeFrom_30 : decode cX0_takeFrom 30 = .ok (.aload_n 1, 1) := by decide +kernel
theorem dX0_takeFrom_31 : decode cX0_takeFrom 31 = .ok (.getfield 18, 3) := by decide +kernel
theorem dX0_takeFrom_34 : decode cX0_takeFrom 34 = .ok (.iconst 0, 1) := by decide +kernel
theorem dX0_takeFrom_35 : decode cX0_takeFrom 35 = .ok (.aload_n 0, 1) := by decide +kernel
theorem dX0_takeFrom_36 : decode cX0_takeFrom 36 = .ok (.getfield 18, 3) := by decide +kernel
theorem dX0_takeFrom_39 : decode cX0_takeFrom 39 = .ok (.iconst 0, 1) := by decide +kernel
theorem dX0_takeFrom_40 : decode cX0_takeFrom 40 = .ok (.bipush 7, 2) := by decide +kernel
theorem dX0_takeFrom_42 : decode cX0_takeFrom 42 = .ok (.invokestatic 49, 3) := by decide +kernel
theorem dX0_takeFrom_45 : decode cX0_takeFrom 45 = .ok (.aload_n 1, 1) := by decide +kernel
theorem dX0_takeFrom_46 : decode cX0_takeFrom 46 = .ok (.getfield 21, 3) := by decide +kernel
theorem dX0_takeFrom_49 : decode cX0_takeFrom 49 = .ok (.iconst 0, 1) := by decide +kernel
theorem dX0_takeFrom_50 : decode cX0_takeFrom 50 = .ok (.aload_n 0, 1) := by decide +kernel
theorem dX0_takeFrom_51 : decode cX0_takeFrom 51 = .ok (.getfield 21, 3) := by decide +kernel
theorem dX0_takeFrom_54 : decode cX0_takeFrom 54 = .ok (.iconst 0, 1) := by decide +kernel
theorem dX0_takeFrom_55 : decode cX0_takeFrom 55 = .ok (.bipush 7, 2) := by decide +kernel
theorem dX0_takeFrom_57 : decode cX0_takeFrom 57 = .ok (.invokestatic 49, 3) := by decide +kernel
theorem dX0_takeFrom_60 : decode cX0_takeFrom 60 = .ok (.aload_n 1, 1) := by decide +kernel
theorem dX0_takeFrom_61 : decode cX0_takeFrom 61 = .ok (.getfield 24, 3) := by decide +kernel
theorem dX0_takeFrom_64 : decode cX0_takeFrom 64 = .ok (.iconst 0, 1) := by decide +kernel
theorem dX0_takeFrom_65 : decode cX0_takeFrom 65 = .ok (.aload_n 0, 1) := by decide +kernel
theorem dX0_takeFrom_66 : decode cX0_takeFrom 66 = .ok (.getfield 24, 3) := by decide +kernel
theorem dX0_takeFrom_69 : decode cX0_takeFrom 69 = .ok (.iconst 0, 1) := by decide +kernel
theorem dX0_takeFrom_70 : decode cX0_takeFrom 70 = .ok (.bipush 7, 2) := by decide +kernel
theorem dX0_takeFrom_72 : decode cX0_takeFrom 72 = .ok (.invokestatic 49, 3) := by decide +kernel
theorem dX0_takeFrom_75 : decode cX0_takeFrom 75 = .ok (.aload_n 0, 1) := by decide +kernel
theorem dX0_takeFrom_76 : decode cX0_takeFrom 76 = .ok (.aload_n 1, 1) := by decide +kernel
theorem dX0_takeFrom_77 : decode cX0_takeFrom 77 = .ok (.getfield 30, 3) := by decide +kernel
theorem dX0_takeFrom_80 : decode cX0_takeFrom 80 = .ok (.putfield 30, 3) := by decide +kernel
theorem dX0_takeFrom_83 : decode cX0_takeFrom 83 = .ok (.aload_n 0, 1) := by decide +kernel
theorem dX0_takeFrom_84 : decode cX0_takeFrom 84 = .ok (.aload_n 1, 1) := by decide +kernel
theorem dX0_takeFrom_85 : decode cX0_takeFrom 85 = .ok (.getfield 34, 3) := by decide +kernel
theorem dX0_takeFrom_88 : decode cX0_takeFrom 88 = .ok (.putfield 34, 3) := by decide +kernel
theorem dX0_takeFrom_91 : decode cX0_takeFrom 91 = .ok (.return_, 1) := by decide +kernel
theorem dX0_goOn_0 : decode cX0_goOn 0 = .ok (.iconst 0, 1) := by decide +kernel
theorem dX0_goOn_1 : decode cX0_goOn 1 = .ok (.istore_n 2, 1) := by decide +kernel
theorem dX0_goOn_2 : decode cX0_goOn 2 = .ok (.iload_n 2, 1) := by decide +kernel
theorem dX0_goOn_3 : decode cX0_goOn 3 = .ok (.iload_n 1, 1) := by decide +kernel
theorem dX0_goOn_4 : decode cX0_goOn 4 = .ok (.if_icmp .ge 13, 3) := by decide +kernel
theorem dX0_goOn_7 : decode cX0_goOn 7 = .ok (.aload_n 0, 1) := by decide +kernel
theorem dX0_goOn_8 : decode cX0_goOn 8 = .ok (.invokevirtual 55, 3) := by decide +kernel
theorem dX0_goOn_11 : decode cX0_goOn 11 = .ok (.iinc 2 1, 3) := by decide +kernel
theorem dX0_goOn_14 : decode cX0_goOn 14 = .ok (.goto (-12), 3) := by decide +kernel
theorem dX0_goOn_17 : decode cX0_goOn 17 = .ok (.return_, 1) := by decide +kernel
theorem dX0_letPass_0 : decode cX0_letPass 0 = .ok (.iconst 0, 1) := by decide +kernel
theorem dX0_letPass_1 : decode cX0_letPass 1 = .ok (.istore_n 1, 1) := by decide +kernel
theorem dX0_letPass_2 : decode cX0_letPass 2 = .ok (.iload_n 1, 1) := by decide +kernel
theorem dX0_letPass_3 : decode cX0_letPass 3 = .ok (.aload_n 0, 1) := by decide +kernel
theorem dX0_letPass_4 : decode cX0_letPass 4 = .ok (.getfield 30, 3) := by decide +kernel
theorem dX0_letPass_7 : decode cX0_letPass 7 = .ok (.if_icmp .ge 35, 3) := by decide +kernel
theorem dX0_letPass_10 : decode cX0_letPass 10 = .ok (.aload_n 0, 1) := by decide +kernel
theorem dX0_letPass_11 : decode cX0_letPass 11 = .ok (.getfield 24, 3) := by decide +kernel
theorem dX0_letPass_14 : decode cX0_letPass 14 = .ok (.iload_n 1, 1) := by decide +kernel
theorem dX0_letPass_15 : decode cX0_letPass 15 = .ok (.iaload, 1) := by decide +kernel
theorem dX0_letPass_16 : decode cX0_letPass 16 = .ok (.istore_n 2, 1) := by decide +kernel
theorem dX0_letPass_17 : decode cX0_letPass 17 = .ok (.aload_n 0, 1) := by decide +kernel
theorem dX0_letPass_18 : decode cX0_letPass 18 = .ok (.iload_n 2, 1) := by decide +kernel
theorem dX0_letPass_19 : decode cX0_letPass 19 = .ok (.invokevirtual 58, 3) := by decide +kernel
theorem dX0_letPass_22 : decode cX0_letPass 22 = .ok (.ifCond .eq 14, 3) := by decide +kernel
theorem dX0_letPass_25 : decode cX0_letPass 25 = .ok (.aload_n 0, 1) := by decide +kernel
theorem dX0_letPass_26 : decode cX0_letPass 26 = .ok (.getfield 27, 3) := by decide +kernel
theorem dX0_letPass_29 : decode cX0_letPass 29 = .ok (.iload_n 2, 1) := by decide +kernel
theorem dX0_letPass_30 : decode cX0_letPass 30 = .ok (.aload_n 0, 1) := by decide +kernel
theorem dX0_letPass_31 : decode cX0_letPass 31 = .ok (.iload_n 1, 1) := by decide +kernel
theorem dX0_letPass_32 : decode cX0_letPass 32 = .ok (.invokevirtual 62, 3) := by decide +kernel
theorem dX0_letPass_35 : decode cX0_letPass 35 = .ok (.iastore, 1) := by decide +kernel
theorem dX0_letPass_36 : decode cX0_letPass 36 = .ok (.iinc 1 1, 3) := by decide +kernel
theorem dX0_letPass_39 : decode cX0_letPass 39 = .ok (.goto (-37), 3) := by decide +kernel
theorem dX0_letPass_42 : decode cX0_letPass 42 = .ok (.iconst 0, 1) := by decide +kernel
theorem dX0_letPass_43 : decode cX0_letPass 43 = .ok (.istore_n 1, 1) := by decide +kernel
theorem dX0_letPass_44 : decode cX0_letPass 44 = .ok (.iload_n 1, 1) := by decide +kernel
theorem dX0_letPass_45 : decode cX0_letPass 45 = .ok (.aload_n 0, 1) := by decide +kernel
theorem dX0_letPass_46 : decode cX0_letPass 46 = .ok (.getfield 30, 3) := by decide +kernel
theorem dX0_letPass_49 : decode cX0_letPass 49 = .ok (.if_icmp .ge 58, 3) := by decide +kernel
theorem dX0_letPass_52 : decode cX0_letPass 52 = .ok (.aload_n 0, 1) := by decide +kernel
theorem dX0_letPass_53 : decode cX0_letPass 53 = .ok (.iload_n 1, 1) := by decide +kernel
theorem dX0_letPass_54 : decode cX0_letPass 54 = .ok (.invokevirtual 65, 3) := by decide +kernel
theorem dX0_letPass_57 : decode cX0_letPass 57 = .ok (.ifCond .eq 44, 3) := by decide +kernel
theorem dX0_letPass_60 : decode cX0_letPass 60 = .ok (.aload_n 0, 1) := by decide +kernel
theorem dX0_letPass_61 : decode cX0_letPass 61 = .ok (.getfield 21, 3) := by decide +kernel
theorem dX0_letPass_64 : decode cX0_letPass 64 = .ok (.iload_n 1, 1) := by decide +kernel
theorem dX0_letPass_65 : decode cX0_letPass 65 = .ok (.aload_n 0, 1) := by decide +kernel
theorem dX0_letPass_66 : decode cX0_letPass 66 = .ok (.getfield 21, 3) := by decide +kernel
theorem dX0_letPass_69 : decode cX0_letPass 69 = .ok (.iload_n 1, 1) := by decide +kernel
theorem dX0_letPass_70 : decode cX0_letPass 70 = .ok (.iaload, 1) := by decide +kernel
theorem dX0_letPass_71 : decode cX0_letPass 71 = .ok (.iconst 1, 1) := by decide +kernel
theorem dX0_letPass_72 : decode cX0_letPass 72 = .ok (.ishr, 1) := by decide +kernel
theorem dX0_letPass_73 : decode cX0_letPass 73 = .ok (.aload_n 0, 1) := by decide +kernel
theorem dX0_letPass_74 : decode cX0_letPass 74 = .ok (.aload_n 0, 1) := by decide +kernel
theorem dX0_letPass_75 : decode cX0_letPass 75 = .ok (.getfield 9, 3) := by decide +kernel
theorem dX0_letPass_78 : decode cX0_letPass 78 = .ok (.iload_n 1, 1) := by decide +kernel
theorem dX0_letPass_79 : decode cX0_letPass 79 = .ok (.iaload, 1) := by decide +kernel
theorem dX0_letPass_80 : decode cX0_letPass 80 = .ok (.iload_n 1, 1) := by decide +kernel
theorem dX0_letPass_81 : decode cX0_letPass 81 = .ok (.aload_n 0, 1) := by decide +kernel
theorem dX0_letPass_82 : decode cX0_letPass 82 = .ok (.getfield 27, 3) := by decide +kernel
theorem dX0_letPass_85 : decode cX0_letPass 85 = .ok (.iload_n 1, 1) := by decide +kernel
theorem dX0_letPass_86 : decode cX0_letPass 86 = .ok (.iaload, 1) := by decide +kernel
theorem dX0_letPass_87 : decode cX0_letPass 87 = .ok (.invokevirtual 68, 3) := by decide +kernel
theorem dX0_letPass_90 : decode cX0_letPass 90 = .ok (.aload_n 0, 1) := by decide +kernel
theorem dX0_letPass_91 : decode cX0_letPass 91 = .ok (.getfield 15, 3) := by decide +kernel
theorem dX0_letPass_94 : decode cX0_letPass 94 = .ok (.iload_n 1, 1) := by decide +kernel
theorem dX0_letPass_95 : decode cX0_letPass 95 = .ok (.iaload, 1) := by decide +kernel
theorem dX0_letPass_96 : decode cX0_letPass 96 = .ok (.iconst 1, 1) := by decide +kernel
theorem dX0_letPass_97 : decode cX0_letPass 97 = .ok (.isub, 1) := by decide +kernel
theorem dX0_letPass_98 : decode cX0_letPass 98 = .ok (.ishl, 1) := by decide +kernel
theorem dX0_letPass_99 : decode cX0_letPass 99 = .ok (.ior, 1) := by decide +kernel
theorem dX0_letPass_100 : decode cX0_letPass 100 = .ok (.iastore, 1) := by decide +kernel
theorem dX0_letPass_101 : decode cX0_letPass 101 = .ok (.iinc 1 1, 3) := by decide +kernel
theorem dX0_letPass_104 : decode cX0_letPass 104 = .ok (.goto (-60), 3) := by decide +kernel
theorem dX0_letPass_107 : decode cX0_letPass 107 = .ok (.aload_n 0, 1) := by decide +kernel
theorem dX0_letPass_108 : decode cX0_letPass 108 = .ok (.dup, 1) := by decide +kernel
theorem dX0_letPass_109 : decode cX0_letPass 109 = .ok (.getfield 34, 3) := by decide +kernel
theorem dX0_letPass_112 : decode cX0_letPass 112 = .ok (.iconst 1, 1) := by decide +kernel
theorem dX0_letPass_113 : decode cX0_letPass 113 = .ok (.iadd, 1) := by decide +kernel
theorem dX0_letPass_114 : decode cX0_letPass 114 = .ok (.putfield 34, 3) := by decide +kernel
theorem dX0_letPass_117 : decode cX0_letPass 117 = .ok (.return_, 1) := by decide +kernel
theorem dX0_turnSlot_0 : decode cX0_turnSlot 0 = .ok (.aload_n 0, 1) := by decide +kernel
theorem dX0_turnSlot_1 : decode cX0_turnSlot 1 = .ok (.iload_n 1, 1) := by decide +kernel
theorem dX0_turnSlot_2 : decode cX0_turnSlot 2 = .ok (.invokevirtual 58, 3) := by decide +kernel
theorem dX0_turnSlot_5 : decode cX0_turnSlot 5 = .ok (.ifCond .eq 15, 3) := by decide +kernel
theorem dX0_turnSlot_8 : decode cX0_turnSlot 8 = .ok (.aload_n 0, 1) := by decide +kernel
theorem dX0_turnSlot_9 : decode cX0_turnSlot 9 = .ok (.getfield 21, 3) := by decide +kernel
theorem dX0_turnSlot_12 : decode cX0_turnSlot 12 = .ok (.iload_n 1, 1) := by decide +kernel
theorem dX0_turnSlot_13 : decode cX0_turnSlot 13 = .ok (.dup2, 1) := by decide +kernel
theorem dX0_turnSlot_14 : decode cX0_turnSlot 14 = .ok (.iaload, 1) := by decide +kernel
theorem dX0_turnSlot_15 : decode cX0_turnSlot 15 = .ok (.iconst 1, 1) := by decide +kernel
theorem dX0_turnSlot_16 : decode cX0_turnSlot 16 = .ok (.iload_n 2, 1) := by decide +kernel
theorem dX0_turnSlot_17 : decode cX0_turnSlot 17 = .ok (.ishl, 1) := by decide +kernel
theorem dX0_turnSlot_18 : decode cX0_turnSlot 18 = .ok (.ixor, 1) := by decide +kernel
theorem dX0_turnSlot_19 : decode cX0_turnSlot 19 = .ok (.iastore, 1) := by decide +kernel
theorem dX0_turnSlot_20 : decode cX0_turnSlot 20 = .ok (.return_, 1) := by decide +kernel
theorem dX0_swapWays_0 : decode cX0_swapWays 0 = .ok (.aload_n 0, 1) := by decide +kernel
theorem dX0_swapWays_1 : decode cX0_swapWays 1 = .ok (.iload_n 1, 1) := by decide +kernel
theorem dX0_swapWays_2 : decode cX0_swapWays 2 = .ok (.invokevirtual 58, 3) := by decide +kernel
theorem dX0_swapWays_5 : decode cX0_swapWays 5 = .ok (.ifCond .eq 37, 3) := by decide +kernel
theorem dX0_swapWays_8 : decode cX0_swapWays 8 = .ok (.aload_n 0, 1) := by decide +kernel
theorem dX0_swapWays_9 : decode cX0_swapWays 9 = .ok (.iload_n 2, 1) := by decide +kernel
theorem dX0_swapWays_10 : decode cX0_swapWays 10 = .ok (.invokevirtual 58, 3) := by decide +kernel
theorem dX0_swapWays_13 : decode cX0_swapWays 13 = .ok (.ifCond .eq 29, 3) := by decide +kernel
theorem dX0_swapWays_16 : decode cX0_swapWays 16 = .ok (.aload_n 0, 1) := by decide +kernel
theorem dX0_swapWays_17 : decode cX0_swapWays 17 = .ok (.getfield 24, 3) := by decide +kernel
theorem dX0_swapWays_20 : decode cX0_swapWays 20 = .ok (.iload_n 1, 1) := by decide +kernel
theorem dX0_swapWays_21 : decode cX0_swapWays 21 = .ok (.iaload, 1) := by decide +kernel
theorem dX0_swapWays_22 : decode cX0_swapWays 22 = .ok (.istore_n 3, 1) := by decide +kernel
theorem dX0_swapWays_23 : decode cX0_swapWays 23 = .ok (.aload_n 0, 1) := by decide +kernel
theorem dX0_swapWays_24 : decode cX0_swapWays 24 = .ok (.getfield 24, 3) := by decide +kernel
theorem dX0_swapWays_27 : decode cX0_swapWays 27 = .ok (.iload_n 1, 1) := by decide +kernel
theorem dX0_swapWays_28 : decode cX0_swapWays 28 = .ok (.aload_n 0, 1) := by decide +kernel
theorem dX0_swapWays_29 : decode cX0_swapWays 29 = .ok (.getfield 24, 3) := by decide +kernel
theorem dX0_swapWays_32 : decode cX0_swapWays 32 = .ok (.iload_n 2, 1) := by decide +kernel
theorem dX0_swapWays_33 : decode cX0_swapWays 33 = .ok (.iaload, 1) := by decide +kernel
theorem dX0_swapWays_34 : decode cX0_swapWays 34 = .ok (.iastore, 1) := by decide +kernel
theorem dX0_swapWays_35 : decode cX0_swapWays 35 = .ok (.aload_n 0, 1) := by decide +kernel
theorem dX0_swapWays_36 : decode cX0_swapWays 36 = .ok (.getfield 24, 3) := by decide +kernel
theorem dX0_swapWays_39 : decode cX0_swapWays 39 = .ok (.iload_n 2, 1) := by decide +kernel
theorem dX0_swapWays_40 : decode cX0_swapWays 40 = .ok (.iload_n 3, 1) := by decide +kernel
theorem dX0_swapWays_41 : decode cX0_swapWays 41 = .ok (.iastore, 1) := by decide +kernel
theorem dX0_swapWays_42 : decode cX0_swapWays 42 = .ok (.return_, 1) := by decide +kernel
theorem dX0_putWord_0 : decode cX0_putWord 0 = .ok (.aload_n 0, 1) := by decide +kernel
theorem dX0_putWord_1 : decode cX0_putWord 1 = .ok (.iload_n 1, 1) := by decide +kernel
theorem dX0_putWord_2 : decode cX0_putWord 2 = .ok (.invokevirtual 58, 3) := by decide +kernel
theorem dX0_putWord_5 : decode cX0_putWord 5 = .ok (.ifCond .eq 10, 3) := by decide +kernel
theorem dX0_putWord_8 : decode cX0_putWord 8 = .ok (.aload_n 0, 1) := by decide +kernel
theorem dX0_putWord_9 : decode cX0_putWord 9 = .ok (.getfield 21, 3) := by decide +kernel
theorem dX0_putWord_12 : decode cX0_putWord 12 = .ok (.iload_n 1, 1) := by decide +kernel
theorem dX0_putWord_13 : decode cX0_putWord 13 = .ok (.iload_n 2, 1) := by decide +kernel
theorem dX0_putWord_14 : decode cX0_putWord 14 = .ok (.iastore, 1) := by decide +kernel
theorem dX0_putWord_15 : decode cX0_putWord 15 = .ok (.return_, 1) := by decide +kernel
theorem dX0_putEnds_0 : decode cX0_putEnds 0 = .ok (.iconst 0, 1) := by decide +kernel
theorem dX0_putEnds_1 : decode cX0_putEnds 1 = .ok (.istore_n 2, 1) := by decide +kernel
theorem dX0_putEnds_2 : decode cX0_putEnds 2 = .ok (.iload_n 2, 1) := by decide +kernel
theorem dX0_putEnds_3 : decode cX0_putEnds 3 = .ok (.aload_n 0, 1) := by decide +kernel
theorem dX0_putEnds_4 : decode cX0_putEnds 4 = .ok (.getfield 30, 3) := by decide +kernel
theorem dX0_putEnds_7 : decode cX0_putEnds 7 = .ok (.if_icmp .ge 30, 3) := by decide +kernel
theorem dX0_putEnds_10 : decode cX0_putEnds 10 = .ok (.aload_n 0, 1) := by decide +kernel
theorem dX0_putEnds_11 : decode cX0_putEnds 11 = .ok (.getfield 21, 3) := by decide +kernel
theorem dX0_putEnds_14 : decode cX0_putEnds 14 = .ok (.iload_n 2, 1) := by decide +kernel
theorem dX0_putEnds_15 : decode cX0_putEnds 15 = .ok (.aload_n 0, 1) := by decide +kernel
theorem dX0_putEnds_16 : decode cX0_putEnds 16 = .ok (.getfield 21, 3) := by decide +kernel
theorem dX0_putEnds_19 : decode cX0_putEnds 19 = .ok (.iload_n 2, 1) := by decide +kernel
theorem dX0_putEnds_20 : decode cX0_putEnds 20 = .ok (.iaload, 1) := by decide +kernel
theorem dX0_putEnds_21 : decode cX0_putEnds 21 = .ok (.bipush (-2), 2) := by decide +kernel
theorem dX0_putEnds_23 : decode cX0_putEnds 23 = .ok (.iand, 1) := by decide +kernel
theorem dX0_putEnds_24 : decode cX0_putEnds 24 = .ok (.iload_n 1, 1) := by decide +kernel
theorem dX0_putEnds_25 : decode cX0_putEnds 25 = .ok (.iload_n 2, 1) := by decide +kernel
theorem dX0_putEnds_26 : decode cX0_putEnds 26 = .ok (.ishr, 1) := by decide +kernel
theorem dX0_putEnds_27 : decode cX0_putEnds 27 = .ok (.iconst 1, 1) := by decide +kernel
theorem dX0_putEnds_28 : decode cX0_putEnds 28 = .ok (.iand, 1) := by decide +kernel
theorem dX0_putEnds_29 : decode cX0_putEnds 29 = .ok (.ior, 1) := by decide +kernel
theorem dX0_putEnds_30 : decode cX0_putEnds 30 = .ok (.iastore, 1) := by decide +kernel
theorem dX0_putEnds_31 : decode cX0_putEnds 31 = .ok (.iinc 2 1, 3) := by decide +kernel
theorem dX0_putEnds_34 : decode cX0_putEnds 34 = .ok (.goto (-32), 3) := by decide +kernel
theorem dX0_putEnds_37 : decode cX0_putEnds 37 = .ok (.return_, 1) := by decide +kernel
theorem dX0_empty_0 : decode cX0_empty 0 = .ok (.iconst 0, 1) := by decide +kernel
theorem dX0_empty_1 : decode cX0_empty 1 = .ok (.istore_n 2, 1) := by decide +kernel
theorem dX0_empty_2 : decode cX0_empty 2 = .ok (.iload_n 2, 1) := by decide +kernel
theorem dX0_empty_3 : decode cX0_empty 3 = .ok (.aload_n 0, 1) := by decide +kernel
theorem dX0_empty_4 : decode cX0_empty 4 = .ok (.getfield 30, 3) := by decide +kernel
theorem dX0_empty_7 : decode cX0_empty 7 = .ok (.if_icmp .ge 25, 3) := by decide +kernel
theorem dX0_empty_10 : decode cX0_empty 10 = .ok (.iload_n 1, 1) := by decide +kernel
theorem dX0_empty_11 : decode cX0_empty 11 = .ok (.iload_n 2, 1) := by decide +kernel
theorem dX0_empty_12 : decode cX0_empty 12 = .ok (.ishr, 1) := by decide +kernel
theorem dX0_empty_13 : decode cX0_empty 13 = .ok (.iconst 1, 1) := by decide +kernel
theorem dX0_empty_14 : decode cX0_empty 14 = .ok (.iand, 1) := by decide +kernel
theorem dX0_empty_15 : decode cX0_empty 15 = .ok (.iconst 1, 1) := by decide +kernel
theorem dX0_empty_16 : decode cX0_empty 16 = .ok (.if_icmp .ne 10, 3) := by decide +kernel
theorem dX0_empty_19 : decode cX0_empty 19 = .ok (.aload_n 0, 1) := by decide +kernel
theorem dX0_empty_20 : decode cX0_empty 20 = .ok (.getfield 21, 3) := by decide +kernel
theorem dX0_empty_23 : decode cX0_empty 23 = .ok (.iload_n 2, 1) := by decide +kernel
theorem dX0_empty_24 : decode cX0_empty 24 = .ok (.iconst 0, 1) := by decide +kernel
theorem dX0_empty_25 : decode cX0_empty 25 = .ok (.iastore, 1) := by decide +kernel
theorem dX0_empty_26 : decode cX0_empty 26 = .ok (.iinc 2 1, 3) := by decide +kernel
theorem dX0_empty_29 : decode cX0_empty 29 = .ok (.goto (-27), 3) := by decide +kernel
theorem dX0_empty_32 : decode cX0_empty 32 = .ok (.return_, 1) := by decide +kernel
theorem dX0_isOf_0 : decode cX0_isOf 0 = .ok (.aload_n 0, 1) := by decide +kernel
theorem dX0_isOf_1 : decode cX0_isOf 1 = .ok (.getfield 9, 3) := by decide +kernel
theorem dX0_isOf_4 : decode cX0_isOf 4 = .ok (.iload_n 1, 1) := by decide +kernel
theorem dX0_isOf_5 : decode cX0_isOf 5 = .ok (.iaload, 1) := by decide +kernel
theorem dX0_isOf_6 : decode cX0_isOf 6 = .ok (.istore_n 3, 1) := by decide +kernel
theorem dX0_isOf_7 : decode cX0_isOf 7 = .ok (.iload_n 3, 1) := by decide +kernel
theorem dX0_isOf_8 : decode cX0_isOf 8 = .ok (.iload_n 2, 1) := by decide +kernel
theorem dX0_isOf_9 : decode cX0_isOf 9 = .ok (.if_icmp .eq 23, 3) := by decide +kernel
theorem dX0_isOf_12 : decode cX0_isOf 12 = .ok (.iload_n 2, 1) := by decide +kernel
theorem dX0_isOf_13 : decode cX0_isOf 13 = .ok (.iconst 1, 1) := by decide +kernel
theorem dX0_isOf_14 : decode cX0_isOf 14 = .ok (.if_icmp .ne 8, 3) := by decide +kernel
theorem dX0_isOf_17 : decode cX0_isOf 17 = .ok (.iload_n 3, 1) := by decide +kernel
theorem dX0_isOf_18 : decode cX0_isOf 18 = .ok (.iconst 4, 1) := by decide +kernel
theorem dX0_isOf_19 : decode cX0_isOf 19 = .ok (.if_icmp .eq 13, 3) := by decide +kernel
theorem dX0_isOf_22 : decode cX0_isOf 22 = .ok (.iload_n 2, 1) := by decide +kernel
theorem dX0_isOf_23 : decode cX0_isOf 23 = .ok (.iconst 2, 1) := by decide +kernel
theorem dX0_isOf_24 : decode cX0_isOf 24 = .ok (.if_icmp .ne 12, 3) := by decide +kernel
theorem dX0_isOf_27 : decode cX0_isOf 27 = .ok (.iload_n 3, 1) := by decide +kernel
theorem dX0_isOf_28 : decode cX0_isOf 28 = .ok (.iconst 5, 1) := by decide +kernel
theorem dX0_isOf_29 : decode cX0_isOf 29 = .ok (.if_icmp .ne 7, 3) := by decide +kernel
theorem dX0_isOf_32 : decode cX0_isOf 32 = .ok (.iconst 1, 1) := by decide +kernel
theorem dX0_isOf_33 : decode cX0_isOf 33 = .ok (.goto 4, 3) := by decide +kernel
theorem dX0_isOf_36 : decode cX0_isOf 36 = .ok (.iconst 0, 1) := by decide +kernel
theorem dX0_isOf_37 : decode cX0_isOf 37 = .ok (.ireturn, 1) := by decide +kernel
theorem dX0_isReady_0 : decode cX0_isReady 0 = .ok (.aload_n 0, 1) := by decide +kernel
theorem dX0_isReady_1 : decode cX0_isReady 1 = .ok (.getfield 9, 3) := by decide +kernel
theorem dX0_isReady_4 : decode cX0_isReady 4 = .ok (.iload_n 1, 1) := by decide +kernel
theorem dX0_isReady_5 : decode cX0_isReady 5 = .ok (.iaload, 1) := by decide +kernel
theorem dX0_isReady_6 : decode cX0_isReady 6 = .ok (.iconst 3, 1) := by decide +kernel
theorem dX0_isReady_7 : decode cX0_isReady 7 = .ok (.if_icmp .ne 12, 3) := by decide +kernel
theorem dX0_isReady_10 : decode cX0_isReady 10 = .ok (.aload_n 0, 1) := by decide +kernel
theorem dX0_isReady_11 : decode cX0_isReady 11 = .ok (.getfield 34, 3) := by decide +kernel
theorem dX0_isReady_14 : decode cX0_isReady 14 = .ok (.iconst 2, 1) := by decide +kernel
theorem dX0_isReady_15 : decode cX0_isReady 15 = .ok (.irem, 1) := by decide +kernel
theorem dX0_isReady_16 : decode cX0_isReady 16 = .ok (.ifCond .ne 7, 3) := by decide +kernel
theorem dX0_isReady_19 : decode cX0_isReady 19 = .ok (.iconst 1, 1) := by decide +kernel
theorem dX0_isReady_20 : decode cX0_isReady 20 = .ok (.goto 4, 3) := by decide +kernel
theorem dX0_isReady_23 : decode cX0_isReady 23 = .ok (.iconst 0, 1) := by decide +kernel
theorem dX0_isReady_24 : decode cX0_isReady 24 = .ok (.ireturn, 1) := by decide +kernel
theorem dX0_comesOut_0 : decode cX0_comesOut 0 = .ok (.aload_n 0, 1) := by decide +kernel
theorem dX0_comesOut_1 : decode cX0_comesOut 1 = .ok (.iload_n 1, 1) := by decide +kernel
theorem dX0_comesOut_2 : decode cX0_comesOut 2 = .ok (.invokevirtual 65, 3) := by decide +kernel
theorem dX0_comesOut_5 : decode cX0_comesOut 5 = .ok (.ifCond .eq 14, 3) := by decide +kernel
theorem dX0_comesOut_8 : decode cX0_comesOut 8 = .ok (.aload_n 0, 1) := by decide +kernel
theorem dX0_comesOut_9 : decode cX0_comesOut 9 = .ok (.getfield 21, 3) := by decide +kernel
theorem dX0_comesOut_12 : decode cX0_comesOut 12 = .ok (.iload_n 1, 1) := by decide +kernel
theorem dX0_comesOut_13 : decode cX0_comesOut 13 = .ok (.iaload, 1) := by decide +kernel
theorem dX0_comesOut_14 : decode cX0_comesOut 14 = .ok (.iconst 1, 1) := by decide +kernel
theorem dX0_comesOut_15 : decode cX0_comesOut 15 = .ok (.iand, 1) := by decide +kernel
theorem dX0_comesOut_16 : decode cX0_comesOut 16 = .ok (.goto 4, 3) := by decide +kernel
theorem dX0_comesOut_19 : decode cX0_comesOut 19 = .ok (.iconst 0, 1) := by decide +kernel
theorem dX0_comesOut_20 : decode cX0_comesOut 20 = .ok (.ireturn, 1) := by decide +kernel
theorem dX0_cameTo_0 : decode cX0_cameTo 0 = .ok (.iconst 0, 1) := by decide +kernel
theorem dX0_cameTo_1 : decode cX0_cameTo 1 = .ok (.istore_n 2, 1) := by decide +kernel
theorem dX0_cameTo_2 : decode cX0_cameTo 2 = .ok (.iload_n 2, 1) := by decide +kernel
theorem dX0_cameTo_3 : decode cX0_cameTo 3 = .ok (.aload_n 0, 1) := by decide +kernel
theorem dX0_cameTo_4 : decode cX0_cameTo 4 = .ok (.getfield 30, 3) := by decide +kernel
theorem dX0_cameTo_7 : decode cX0_cameTo 7 = .ok (.if_icmp .ge 25, 3) := by decide +kernel
theorem dX0_cameTo_10 : decode cX0_cameTo 10 = .ok (.aload_n 0, 1) := by decide +kernel
theorem dX0_cameTo_11 : decode cX0_cameTo 11 = .ok (.getfield 24, 3) := by decide +kernel
theorem dX0_cameTo_14 : decode cX0_cameTo 14 = .ok (.iload_n 2, 1) := by decide +kernel
theorem dX0_cameTo_15 : decode cX0_cameTo 15 = .ok (.iaload, 1) := by decide +kernel
theorem dX0_cameTo_16 : decode cX0_cameTo 16 = .ok (.iload_n 1, 1) := by decide +kernel
theorem dX0_cameTo_17 : decode cX0_cameTo 17 = .ok (.if_icmp .ne 9, 3) := by decide +kernel
theorem dX0_cameTo_20 : decode cX0_cameTo 20 = .ok (.aload_n 0, 1) := by decide +kernel
theorem dX0_cameTo_21 : decode cX0_cameTo 21 = .ok (.iload_n 2, 1) := by decide +kernel
theorem dX0_cameTo_22 : decode cX0_cameTo 22 = .ok (.invokevirtual 62, 3) := by decide +kernel
theorem dX0_cameTo_25 : decode cX0_cameTo 25 = .ok (.ireturn, 1) := by decide +kernel
theorem dX0_cameTo_26 : decode cX0_cameTo 26 = .ok (.iinc 2 1, 3) := by decide +kernel
theorem dX0_cameTo_29 : decode cX0_cameTo 29 = .ok (.goto (-27), 3) := by decide +kernel
theorem dX0_cameTo_32 : decode cX0_cameTo 32 = .ok (.iconst 0, 1) := by decide +kernel
theorem dX0_cameTo_33 : decode cX0_cameTo 33 = .ok (.ireturn, 1) := by decide +kernel
theorem dX0_ticksTillStruck_0 : decode cX0_ticksTillStruck 0 = .ok (.aload_n 0, 1) := by decide +kernel
theorem dX0_ticksTillStruck_1 : decode cX0_ticksTillStruck 1 = .ok (.getfield 18, 3) := by decide +kernel
theorem dX0_ticksTillStruck_4 : decode cX0_ticksTillStruck 4 = .ok (.iload_n 1, 1) := by decide +kernel
theorem dX0_ticksTillStruck_5 : decode cX0_ticksTillStruck 5 = .ok (.iaload, 1) := by decide +kernel
theorem dX0_ticksTillStruck_6 : decode cX0_ticksTillStruck 6 = .ok (.iconst 2, 1) := by decide +kernel
theorem dX0_ticksTillStruck_7 : decode cX0_ticksTillStruck 7 = .ok (.iadd, 1) := by decide +kernel
theorem dX0_ticksTillStruck_8 : decode cX0_ticksTillStruck 8 = .ok (.istore_n 2, 1) := by decide +kernel
theorem dX0_ticksTillStruck_9 : decode cX0_ticksTillStruck 9 = .ok (.iload_n 2, 1) := by decide +kernel
theorem dX0_ticksTillStruck_10 : decode cX0_ticksTillStruck 10 = .ok (.ifCond .le 16, 3) := by decide +kernel
theorem dX0_ticksTillStruck_13 : decode cX0_ticksTillStruck 13 = .ok (.iload_n 2, 1) := by decide +kernel
theorem dX0_ticksTillStruck_14 : decode cX0_ticksTillStruck 14 = .ok (.aload_n 0, 1) := by decide +kernel
theorem dX0_ticksTillStruck_15 : decode cX0_ticksTillStruck 15 = .ok (.getfield 34, 3) := by decide +kernel
theorem dX0_ticksTillStruck_18 : decode cX0_ticksTillStruck 18 = .ok (.iload_n 2, 1) := by decide +kernel
theorem dX0_ticksTillStruck_19 : decode cX0_ticksTillStruck 19 = .ok (.irem, 1) := by decide +kernel
theorem dX0_ticksTillStruck_20 : decode cX0_ticksTillStruck 20 = .ok (.isub, 1) := by decide +kernel
theorem dX0_ticksTillStruck_21 : decode cX0_ticksTillStruck 21 = .ok (.iload_n 2, 1) := by decide +kernel
theorem dX0_ticksTillStruck_22 : decode cX0_ticksTillStruck 22 = .ok (.irem, 1) := by decide +kernel
theorem dX0_ticksTillStruck_23 : decode cX0_ticksTillStruck 23 = .ok (.goto 4, 3) := by decide +kernel
theorem dX0_ticksTillStruck_26 : decode cX0_ticksTillStruck 26 = .ok (.iconst 0, 1) := by decide +kernel
theorem dX0_ticksTillStruck_27 : decode cX0_ticksTillStruck 27 = .ok (.ireturn, 1) := by decide +kernel
theorem dX0_sentAs_0 : decode cX0_sentAs 0 = .ok (.aload_n 0, 1) := by decide +kernel
theorem dX0_sentAs_1 : decode cX0_sentAs 1 = .ok (.getfield 21, 3) := by decide +kernel
theorem dX0_sentAs_4 : decode cX0_sentAs 4 = .ok (.iload_n 2, 1) := by decide +kernel
theorem dX0_sentAs_5 : decode cX0_sentAs 5 = .ok (.iaload, 1) := by decide +kernel
theorem dX0_sentAs_6 : decode cX0_sentAs 6 = .ok (.aload_n 0, 1) := by decide +kernel
theorem dX0_sentAs_7 : decode cX0_sentAs 7 = .ok (.getfield 15, 3) := by decide +kernel
theorem dX0_sentAs_10 : decode cX0_sentAs 10 = .ok (.iload_n 2, 1) := by decide +kernel
theorem dX0_sentAs_11 : decode cX0_sentAs 11 = .ok (.iaload, 1) := by decide +kernel
theorem dX0_sentAs_12 : decode cX0_sentAs 12 = .ok (.iconst 1, 1) := by decide +kernel
theorem dX0_sentAs_13 : decode cX0_sentAs 13 = .ok (.isub, 1) := by decide +kernel
theorem dX0_sentAs_14 : decode cX0_sentAs 14 = .ok (.ishr, 1) := by decide +kernel
theorem dX0_sentAs_15 : decode cX0_sentAs 15 = .ok (.iconst 1, 1) := by decide +kernel
theorem dX0_sentAs_16 : decode cX0_sentAs 16 = .ok (.iand, 1) := by decide +kernel
theorem dX0_sentAs_17 : decode cX0_sentAs 17 = .ok (.iconst 1, 1) := by decide +kernel
theorem dX0_sentAs_18 : decode cX0_sentAs 18 = .ok (.if_icmp .ne 7, 3) := by decide +kernel
theorem dX0_sentAs_21 : decode cX0_sentAs 21 = .ok (.iconst 1, 1) := by decide +kernel
theorem dX0_sentAs_22 : decode cX0_sentAs 22 = .ok (.goto 4, 3) := by decide +kernel
theorem dX0_sentAs_25 : decode cX0_sentAs 25 = .ok (.iconst 0, 1) := by decide +kernel
theorem dX0_sentAs_26 : decode cX0_sentAs 26 = .ok (.istore 4, 2) := by decide +kernel
theorem dX0_sentAs_28 : decode cX0_sentAs 28 = .ok (.aload_n 0, 1) := by decide +kernel
theorem dX0_sentAs_29 : decode cX0_sentAs 29 = .ok (.iload_n 2, 1) := by decide +kernel
theorem dX0_sentAs_30 : decode cX0_sentAs 30 = .ok (.invokevirtual 72, 3) := by decide +kernel
theorem dX0_sentAs_33 : decode cX0_sentAs 33 = .ok (.ifCond .ne 7, 3) := by decide +kernel
theorem dX0_sentAs_36 : decode cX0_sentAs 36 = .ok (.iconst 1, 1) := by decide +kernel
theorem dX0_sentAs_37 : decode cX0_sentAs 37 = .ok (.goto 4, 3) := by decide +kernel
theorem dX0_sentAs_40 : decode cX0_sentAs 40 = .ok (.iconst 0, 1) := by decide +kernel
theorem dX0_sentAs_41 : decode cX0_sentAs 41 = .ok (.istore 5, 2) := by decide +kernel
theorem dX0_sentAs_43 : decode cX0_sentAs 43 = .ok (.iload_n 1, 1) := by decide +kernel
theorem dX0_sentAs_44 : decode cX0_sentAs 44 = .ok (.tableswitch 107 1 5 #[36, 47, 107, 63, 76], 36) := by decide +kernel
theorem dX0_sentAs_80 : decode cX0_sentAs 80 = .ok (.iload 5, 2) := by decide +kernel
theorem dX0_sentAs_82 : decode cX0_sentAs 82 = .ok (.ifCond .eq 7, 3) := by decide +kernel
theorem dX0_sentAs_85 : decode cX0_sentAs 85 = .ok (.iconst 0, 1) := by decide +kernel
theorem dX0_sentAs_86 : decode cX0_sentAs 86 = .ok (.goto 4, 3) := by decide +kernel
theorem dX0_sentAs_89 : decode cX0_sentAs 89 = .ok (.iload_n 3, 1) := by decide +kernel
theorem dX0_sentAs_90 : decode cX0_sentAs 90 = .ok (.ireturn, 1) := by decide +kernel
theorem dX0_sentAs_91 : decode cX0_sentAs 91 = .ok (.iload 4, 2) := by decide +kernel
theorem dX0_sentAs_93 : decode cX0_sentAs 93 = .ok (.ifCond .eq 12, 3) := by decide +kernel
theorem dX0_sentAs_96 : decode cX0_sentAs 96 = .ok (.iload 5, 2) := by decide +kernel
theorem dX0_sentAs_98 : decode cX0_sentAs 98 = .ok (.ifCond .eq 7, 3) := by decide +kernel
theorem dX0_sentAs_101 : decode cX0_sentAs 101 = .ok (.iconst 1, 1) := by decide +kernel
theorem dX0_sentAs_102 : decode cX0_sentAs 102 = .ok (.goto 4, 3) := by decide +kernel
theorem dX0_sentAs_105 : decode cX0_sentAs 105 = .ok (.iload_n 3, 1) := by decide +kernel
theorem dX0_sentAs_106 : decode cX0_sentAs 106 = .ok (.ireturn, 1) := by decide +kernel
theorem dX0_sentAs_107 : decode cX0_sentAs 107 = .ok (.iload 5, 2) := by decide +kernel
theorem dX0_sentAs_109 : decode cX0_sentAs 109 = .ok (.ifCond .eq 9, 3) := by decide +kernel
theorem dX0_sentAs_112 : decode cX0_sentAs 112 = .ok (.iconst 1, 1) := by decide +kernel
theorem dX0_sentAs_113 : decode cX0_sentAs 113 = .ok (.iload_n 3, 1) := by decide +kernel
theorem dX0_sentAs_114 : decode cX0_sentAs 114 = .ok (.isub, 1) := by decide +kernel
theorem dX0_sentAs_115 : decode cX0_sentAs 115 = .ok (.goto 4, 3) := by decide +kernel
theorem dX0_sentAs_118 : decode cX0_sentAs 118 = .ok (.iload_n 3, 1) := by decide +kernel
theorem dX0_sentAs_119 : decode cX0_sentAs 119 = .ok (.ireturn, 1) := by decide +kernel
theorem dX0_sentAs_120 : decode cX0_sentAs 120 = .ok (.iload 4, 2) := by decide +kernel
theorem dX0_sentAs_122 : decode cX0_sentAs 122 = .ok (.ifCond .ne 18, 3) := by decide +kernel
theorem dX0_sentAs_125 : decode cX0_sentAs 125 = .ok (.aload_n 0, 1) := by decide +kernel
theorem dX0_sentAs_126 : decode cX0_sentAs 126 = .ok (.getfield 34, 3) := by decide +kernel
theorem dX0_sentAs_129 : decode cX0_sentAs 129 = .ok (.iconst 3, 1) := by decide +kernel
theorem dX0_sentAs_130 : decode cX0_sentAs 130 = .ok (.irem, 1) := by decide +kernel
theorem dX0_sentAs_131 : decode cX0_sentAs 131 = .ok (.ifCond .ne 7, 3) := by decide +kernel
theorem dX0_sentAs_134 : decode cX0_sentAs 134 = .ok (.iconst 0, 1) := by decide +kernel
theorem dX0_sentAs_135 : decode cX0_sentAs 135 = .ok (.goto 4, 3) := by decide +kernel
theorem dX0_sentAs_138 : decode cX0_sentAs 138 = .ok (.iload_n 3, 1) := by decide +kernel
theorem dX0_sentAs_139 : decode cX0_sentAs 139 = .ok (.ireturn, 1) := by decide +kernel
theorem dX0_sentAs_140 : decode cX0_sentAs 140 = .ok (.iload 5, 2) := by decide +kernel
theorem dX0_sentAs_142 : decode cX0_sentAs 142 = .ok (.ifCond .eq 7, 3) := by decide +kernel
theorem dX0_sentAs_145 : decode cX0_sentAs 145 = .ok (.iconst 1, 1) := by decide +kernel
theorem dX0_sentAs_146 : decode cX0_sentAs 146 = .ok (.goto 4, 3) := by decide +kernel
theorem dX0_sentAs_149 : decode cX0_sentAs 149 = .ok (.iload_n 3, 1) := by decide +kernel
theorem dX0_sentAs_150 : decode cX0_sentAs 150 = .ok (.ireturn, 1) := by decide +kernel
theorem dX0_sentAs_151 : decode cX0_sentAs 151 = .ok (.iload_n 3, 1) := by decide +kernel
theorem dX0_sentAs_152 : decode cX0_sentAs 152 = .ok (.ireturn, 1) := by decide +kernel
theorem dX0_tells_0 : decode cX0_tells 0 = .ok (.aload_n 0, 1) := by decide +kernel
theorem dX0_tells_1 : decode cX0_tells 1 = .ok (.iload_n 1, 1) := by decide +kernel
theorem dX0_tells_2 : decode cX0_tells 2 = .ok (.invokevirtual 75, 3) := by decide +kernel
theorem dX0_tells_5 : decode cX0_tells 5 = .ok (.istore_n 3, 1) := by decide +kernel
theorem dX0_tells_6 : decode cX0_tells 6 = .ok (.iload_n 2, 1) := by decide +kernel
theorem dX0_tells_7 : decode cX0_tells 7 = .ok (.tableswitch 100 1 4 #[29, 35, 68, 77], 29) := by decide +kernel
theorem dX0_tells_36 : decode cX0_tells 36 = .ok (.aload_n 0, 1) := by decide +kernel
theorem dX0_tells_37 : decode cX0_tells 37 = .ok (.iload_n 1, 1) := by decide +kernel
theorem dX0_tells_38 : decode cX0_tells 38 = .ok (.invokevirtual 72, 3) := by decide +kernel
theorem dX0_tells_41 : decode cX0_tells 41 = .ok (.ireturn, 1) := by decide +kernel
theorem dX0_tells_42 : decode cX0_tells 42 = .ok (.aload_n 0, 1) := by decide +kernel
theorem dX0_tells_43 : decode cX0_tells 43 = .ok (.aload_n 0, 1) := by decide +kernel
theorem dX0_tells_44 : decode cX0_tells 44 = .ok (.getfield 9, 3) := by decide +kernel
theorem dX0_tells_47 : decode cX0_tells 47 = .ok (.iload_n 1, 1) := by decide +kernel
theorem dX0_tells_48 : decode cX0_tells 48 = .ok (.iaload, 1) := by decide +kernel
theorem dX0_tells_49 : decode cX0_tells 49 = .ok (.iload_n 1, 1) := by decide +kernel
theorem dX0_tells_50 : decode cX0_tells 50 = .ok (.iconst 1, 1) := by decide +kernel
theorem dX0_tells_51 : decode cX0_tells 51 = .ok (.invokevirtual 68, 3) := by decide +kernel
theorem dX0_tells_54 : decode cX0_tells 54 = .ok (.aload_n 0, 1) := by decide +kernel
theorem dX0_tells_55 : decode cX0_tells 55 = .ok (.aload_n 0, 1) := by decide +kernel
theorem dX0_tells_56 : decode cX0_tells 56 = .ok (.getfield 9, 3) := by decide +kernel
theorem dX0_tells_59 : decode cX0_tells 59 = .ok (.iload_n 1, 1) := by decide +kernel
theorem dX0_tells_60 : decode cX0_tells 60 = .ok (.iaload, 1) := by decide +kernel
theorem dX0_tells_61 : decode cX0_tells 61 = .ok (.iload_n 1, 1) := by decide +kernel
theorem dX0_tells_62 : decode cX0_tells 62 = .ok (.iconst 0, 1) := by decide +kernel
theorem dX0_tells_63 : decode cX0_tells 63 = .ok (.invokevirtual 68, 3) := by decide +kernel
theorem dX0_tells_66 : decode cX0_tells 66 = .ok (.if_icmp .ne 7, 3) := by decide +kernel
theorem dX0_tells_69 : decode cX0_tells 69 = .ok (.iconst 1, 1) := by decide +kernel
theorem dX0_tells_70 : decode cX0_tells 70 = .ok (.goto 4, 3) := by decide +kernel
theorem dX0_tells_73 : decode cX0_tells 73 = .ok (.iconst 0, 1) := by decide +kernel
theorem dX0_tells_74 : decode cX0_tells 74 = .ok (.ireturn, 1) := by decide +kernel
theorem dX0_tells_75 : decode cX0_tells 75 = .ok (.iconst 2, 1) := by decide +kernel
theorem dX0_tells_76 : decode cX0_tells 76 = .ok (.aload_n 0, 1) := by decide +kernel
theorem dX0_tells_77 : decode cX0_tells 77 = .ok (.getfield 15, 3) := by decide +kernel
theorem dX0_tells_80 : decode cX0_tells 80 = .ok (.iload_n 1, 1) := by decide +kernel
theorem dX0_tells_81 : decode cX0_tells 81 = .ok (.iaload, 1) := by decide +kernel
theorem dX0_tells_82 : decode cX0_tells 82 = .ok (.imul, 1) := by decide +kernel
theorem dX0_tells_83 : decode cX0_tells 83 = .ok (.ireturn, 1) := by decide +kernel
theorem dX0_tells_84 : decode cX0_tells 84 = .ok (.aload_n 0, 1) := by decide +kernel
theorem dX0_tells_85 : decode cX0_tells 85 = .ok (.iconst 4, 1) := by decide +kernel
theorem dX0_tells_86 : decode cX0_tells 86 = .ok (.iload_n 1, 1) := by decide +kernel
theorem dX0_tells_87 : decode cX0_tells 87 = .ok (.iload_n 3, 1) := by decide +kernel
theorem dX0_tells_88 : decode cX0_tells 88 = .ok (.invokevirtual 68, 3) := by decide +kernel
theorem dX0_tells_91 : decode cX0_tells 91 = .ok (.aload_n 0, 1) := by decide +kernel
theorem dX0_tells_92 : decode cX0_tells 92 = .ok (.iconst 1, 1) := by decide +kernel
theorem dX0_tells_93 : decode cX0_tells 93 = .ok (.iload_n 1, 1) := by decide +kernel
theorem dX0_tells_94 : decode cX0_tells 94 = .ok (.iload_n 3, 1) := by decide +kernel
theorem dX0_tells_95 : decode cX0_tells 95 = .ok (.invokevirtual 68, 3) := by decide +kernel
theorem dX0_tells_98 : decode cX0_tells 98 = .ok (.if_icmp .eq 7, 3) := by decide +kernel
theorem dX0_tells_101 : decode cX0_tells 101 = .ok (.iconst 1, 1) := by decide +kernel
theorem dX0_tells_102 : decode cX0_tells 102 = .ok (.goto 4, 3) := by decide +kernel
theorem dX0_tells_105 : decode cX0_tells 105 = .ok (.iconst 0, 1) := by decide +kernel
theorem dX0_tells_106 : decode cX0_tells 106 = .ok (.ireturn, 1) := by decide +kernel
theorem dX0_tells_107 : decode cX0_tells 107 = .ok (.aload_n 0, 1) := by decide +kernel
theorem dX0_tells_108 : decode cX0_tells 108 = .ok (.iconst 5, 1) := by decide +kernel
theorem dX0_tells_109 : decode cX0_tells 109 = .ok (.iload_n 1, 1) := by decide +kernel
theorem dX0_tells_110 : decode cX0_tells 110 = .ok (.iload_n 3, 1) := by decide +kernel
theorem dX0_tells_111 : decode cX0_tells 111 = .ok (.invokevirtual 68, 3) := by decide +kernel
theorem dX0_tells_114 : decode cX0_tells 114 = .ok (.aload_n 0, 1) := by decide +kernel
theorem dX0_tells_115 : decode cX0_tells 115 = .ok (.iconst 2, 1) := by decide +kernel
theorem dX0_tells_116 : decode cX0_tells 116 = .ok (.iload_n 1, 1) := by decide +kernel
theorem dX0_tells_117 : decode cX0_tells 117 = .ok (.iload_n 3, 1) := by decide +kernel
theorem dX0_tells_118 : decode cX0_tells 118 = .ok (.invokevirtual 68, 3) := by decide +kernel
theorem dX0_tells_121 : decode cX0_tells 121 = .ok (.if_icmp .eq 7, 3) := by decide +kernel
theorem dX0_tells_124 : decode cX0_tells 124 = .ok (.iconst 1, 1) := by decide +kernel
theorem dX0_tells_125 : decode cX0_tells 125 = .ok (.goto 4, 3) := by decide +kernel
theorem dX0_tells_128 : decode cX0_tells 128 = .ok (.iconst 0, 1) := by decide +kernel
theorem dX0_tells_129 : decode cX0_tells 129 = .ok (.ireturn, 1) := by decide +kernel
theorem dX0_fact_0 : decode cX0_fact 0 = .ok (.iload_n 2, 1) := by decide +kernel
theorem dX0_fact_1 : decode cX0_fact 1 = .ok (.tableswitch 88 0 5 #[39, 46, 53, 60, 67, 74], 39) := by decide +kernel
theorem dX0_fact_40 : decode cX0_fact 40 = .ok (.aload_n 0, 1) := by decide +kernel
theorem dX0_fact_41 : decode cX0_fact 41 = .ok (.getfield 9, 3) := by decide +kernel
theorem dX0_fact_44 : decode cX0_fact 44 = .ok (.iload_n 1, 1) := by decide +kernel
theorem dX0_fact_45 : decode cX0_fact 45 = .ok (.iaload, 1) := by decide +kernel
theorem dX0_fact_46 : decode cX0_fact 46 = .ok (.ireturn, 1) := by decide +kernel
theorem dX0_fact_47 : decode cX0_fact 47 = .ok (.aload_n 0, 1) := by decide +kernel
theorem dX0_fact_48 : decode cX0_fact 48 = .ok (.getfield 15, 3) := by decide +kernel
theorem dX0_fact_51 : decode cX0_fact 51 = .ok (.iload_n 1, 1) := by decide +kernel
theorem dX0_fact_52 : decode cX0_fact 52 = .ok (.iaload, 1) := by decide +kernel
theorem dX0_fact_53 : decode cX0_fact 53 = .ok (.ireturn, 1) := by decide +kernel
theorem dX0_fact_54 : decode cX0_fact 54 = .ok (.aload_n 0, 1) := by decide +kernel
theorem dX0_fact_55 : decode cX0_fact 55 = .ok (.getfield 18, 3) := by decide +kernel
theorem dX0_fact_58 : decode cX0_fact 58 = .ok (.iload_n 1, 1) := by decide +kernel
theorem dX0_fact_59 : decode cX0_fact 59 = .ok (.iaload, 1) := by decide +kernel
theorem dX0_fact_60 : decode cX0_fact 60 = .ok (.ireturn, 1) := by decide +kernel
theorem dX0_fact_61 : decode cX0_fact 61 = .ok (.aload_n 0, 1) := by decide +kernel
theorem dX0_fact_62 : decode cX0_fact 62 = .ok (.getfield 21, 3) := by decide +kernel
theorem dX0_fact_65 : decode cX0_fact 65 = .ok (.iload_n 1, 1) := by decide +kernel
theorem dX0_fact_66 : decode cX0_fact 66 = .ok (.iaload, 1) := by decide +kernel
theorem dX0_fact_67 : decode cX0_fact 67 = .ok (.ireturn, 1) := by decide +kernel
theorem dX0_fact_68 : decode cX0_fact 68 = .ok (.aload_n 0, 1) := by decide +kernel
theorem dX0_fact_69 : decode cX0_fact 69 = .ok (.getfield 24, 3) := by decide +kernel
theorem dX0_fact_72 : decode cX0_fact 72 = .ok (.iload_n 1, 1) := by decide +kernel
theorem dX0_fact_73 : decode cX0_fact 73 = .ok (.iaload, 1) := by decide +kernel
theorem dX0_fact_74 : decode cX0_fact 74 = .ok (.ireturn, 1) := by decide +kernel
theorem dX0_fact_75 : decode cX0_fact 75 = .ok (.aload_n 0, 1) := by decide +kernel
theorem dX0_fact_76 : decode cX0_fact 76 = .ok (.iload_n 1, 1) := by decide +kernel
theorem dX0_fact_77 : decode cX0_fact 77 = .ok (.invokevirtual 65, 3) := by decide +kernel
theorem dX0_fact_80 : decode cX0_fact 80 = .ok (.ifCond .eq 7, 3) := by decide +kernel
theorem dX0_fact_83 : decode cX0_fact 83 = .ok (.iconst 1, 1) := by decide +kernel
theorem dX0_fact_84 : decode cX0_fact 84 = .ok (.goto 4, 3) := by decide +kernel
theorem dX0_fact_87 : decode cX0_fact 87 = .ok (.iconst 0, 1) := by decide +kernel
theorem dX0_fact_88 : decode cX0_fact 88 = .ok (.ireturn, 1) := by decide +kernel
theorem dX0_fact_89 : decode cX0_fact 89 = .ok (.aload_n 0, 1) := by decide +kernel
theorem dX0_fact_90 : decode cX0_fact 90 = .ok (.aload_n 0, 1) := by decide +kernel
theorem dX0_fact_91 : decode cX0_fact 91 = .ok (.getfield 9, 3) := by decide +kernel
theorem dX0_fact_94 : decode cX0_fact 94 = .ok (.iload_n 1, 1) := by decide +kernel
theorem dX0_fact_95 : decode cX0_fact 95 = .ok (.iaload, 1) := by decide +kernel
theorem dX0_fact_96 : decode cX0_fact 96 = .ok (.iload_n 1, 1) := by decide +kernel
theorem dX0_fact_97 : decode cX0_fact 97 = .ok (.aload_n 0, 1) := by decide +kernel
theorem dX0_fact_98 : decode cX0_fact 98 = .ok (.iload_n 1, 1) := by decide +kernel
theorem dX0_fact_99 : decode cX0_fact 99 = .ok (.invokevirtual 75, 3) := by decide +kernel
theorem dX0_fact_102 : decode cX0_fact 102 = .ok (.invokevirtual 68, 3) := by decide +kernel
theorem dX0_fact_105 : decode cX0_fact 105 = .ok (.ireturn, 1) := by decide +kernel
theorem dX0_pulses_0 : decode cX0_pulses 0 = .ok (.iconst 0, 1) := by decide +kernel
theorem dX0_pulses_1 : decode cX0_pulses 1 = .ok (.istore_n 1, 1) := by decide +kernel
theorem dX0_pulses_2 : decode cX0_pulses 2 = .ok (.iconst 0, 1) := by decide +kernel
theorem dX0_pulses_3 : decode cX0_pulses 3 = .ok (.istore_n 2, 1) := by decide +kernel
theorem dX0_pulses_4 : decode cX0_pulses 4 = .ok (.iload_n 2, 1) := by decide +kernel
theorem dX0_pulses_5 : decode cX0_pulses 5 = .ok (.aload_n 0, 1) := by decide +kernel
theorem dX0_pulses_6 : decode cX0_pulses 6 = .ok (.getfield 30, 3) := by decide +kernel
theorem dX0_pulses_9 : decode cX0_pulses 9 = .ok (.if_icmp .ge 21, 3) := by decide +kernel
theorem dX0_pulses_12 : decode cX0_pulses 12 = .ok (.iload_n 1, 1) := by decide +kernel
theorem dX0_pulses_13 : decode cX0_pulses 13 = .ok (.aload_n 0, 1) := by decide +kernel
theorem dX0_pulses_14 : decode cX0_pulses 14 = .ok (.getfield 21, 3) := by decide +kernel
theorem dX0_pulses_17 : decode cX0_pulses 17 = .ok (.iload_n 2, 1) := by decide +kernel
theorem dX0_pulses_18 : decode cX0_pulses 18 = .ok (.iaload, 1) := by decide +kernel
theorem dX0_pulses_19 : decode cX0_pulses 19 = .ok (.invokestatic 78, 3) := by decide +kernel
theorem dX0_pulses_22 : decode cX0_pulses 22 = .ok (.iadd, 1) := by decide +kernel
theorem dX0_pulses_23 : decode cX0_pulses 23 = .ok (.istore_n 1, 1) := by decide +kernel
theorem dX0_pulses_24 : decode cX0_pulses 24 = .ok (.iinc 2 1, 3) := by decide +kernel
theorem dX0_pulses_27 : decode cX0_pulses 27 = .ok (.goto (-23), 3) := by decide +kernel
theorem dX0_pulses_30 : decode cX0_pulses 30 = .ok (.iload_n 1, 1) := by decide +kernel
theorem dX0_pulses_31 : decode cX0_pulses 31 = .ok (.ireturn, 1) := by decide +kernel
theorem dX0_slots_0 : decode cX0_slots 0 = .ok (.iconst 0, 1) := by decide +kernel
theorem dX0_slots_1 : decode cX0_slots 1 = .ok (.istore_n 1, 1) := by decide +kernel
theorem dX0_slots_2 : decode cX0_slots 2 = .ok (.iconst 0, 1) := by decide +kernel
theorem dX0_slots_3 : decode cX0_slots 3 = .ok (.istore_n 2, 1) := by decide +kernel
theorem dX0_slots_4 : decode cX0_slots 4 = .ok (.iload_n 2, 1) := by decide +kernel
theorem dX0_slots_5 : decode cX0_slots 5 = .ok (.aload_n 0, 1) := by decide +kernel
theorem dX0_slots_6 : decode cX0_slots 6 = .ok (.getfield 30, 3) := by decide +kernel
theorem dX0_slots_9 : decode cX0_slots 9 = .ok (.if_icmp .ge 18, 3) := by decide +kernel
theorem dX0_slots_12 : decode cX0_slots 12 = .ok (.iload_n 1, 1) := by decide +kernel
theorem dX0_slots_13 : decode cX0_slots 13 = .ok (.aload_n 0, 1) := by decide +kernel
theorem dX0_slots_14 : decode cX0_slots 14 = .ok (.getfield 15, 3) := by decide +kernel
theorem dX0_slots_17 : decode cX0_slots 17 = .ok (.iload_n 2, 1) := by decide +kernel
theorem dX0_slots_18 : decode cX0_slots 18 = .ok (.iaload, 1) := by decide +kernel
theorem dX0_slots_19 : decode cX0_slots 19 = .ok (.iadd, 1) := by decide +kernel
theorem dX0_slots_20 : decode cX0_slots 20 = .ok (.istore_n 1, 1) := by decide +kernel
theorem dX0_slots_21 : decode cX0_slots 21 = .ok (.iinc 2 1, 3) := by decide +kernel
theorem dX0_slots_24 : decode cX0_slots 24 = .ok (.goto (-20), 3) := by decide +kernel
theorem dX0_slots_27 : decode cX0_slots 27 = .ok (.iload_n 1, 1) := by decide +kernel
theorem dX0_slots_28 : decode cX0_slots 28 = .ok (.ireturn, 1) := by decide +kernel
theorem dX0_emptyOnes_0 : decode cX0_emptyOnes 0 = .ok (.iconst 0, 1) := by decide +kernel
theorem dX0_emptyOnes_1 : decode cX0_emptyOnes 1 = .ok (.istore_n 1, 1) := by decide +kernel
theorem dX0_emptyOnes_2 : decode cX0_emptyOnes 2 = .ok (.iconst 0, 1) := by decide +kernel
theorem dX0_emptyOnes_3 : decode cX0_emptyOnes 3 = .ok (.istore_n 2, 1) := by decide +kernel
theorem dX0_emptyOnes_4 : decode cX0_emptyOnes 4 = .ok (.iload_n 2, 1) := by decide +kernel
theorem dX0_emptyOnes_5 : decode cX0_emptyOnes 5 = .ok (.aload_n 0, 1) := by decide +kernel
theorem dX0_emptyOnes_6 : decode cX0_emptyOnes 6 = .ok (.getfield 30, 3) := by decide +kernel
theorem dX0_emptyOnes_9 : decode cX0_emptyOnes 9 = .ok (.if_icmp .ge 24, 3) := by decide +kernel
theorem dX0_emptyOnes_12 : decode cX0_emptyOnes 12 = .ok (.aload_n 0, 1) := by decide +kernel
theorem dX0_emptyOnes_13 : decode cX0_emptyOnes 13 = .ok (.getfield 21, 3) := by decide +kernel
theorem dX0_emptyOnes_16 : decode cX0_emptyOnes 16 = .ok (.iload_n 2, 1) := by decide +kernel
theorem dX0_emptyOnes_17 : decode cX0_emptyOnes 17 = .ok (.iaload, 1) := by decide +kernel
theorem dX0_emptyOnes_18 : decode cX0_emptyOnes 18 = .ok (.ifCond .ne 9, 3) := by decide +kernel
theorem dX0_emptyOnes_21 : decode cX0_emptyOnes 21 = .ok (.iload_n 1, 1) := by decide +kernel
theorem dX0_emptyOnes_22 : decode cX0_emptyOnes 22 = .ok (.iconst 1, 1) := by decide +kernel
theorem dX0_emptyOnes_23 : decode cX0_emptyOnes 23 = .ok (.iload_n 2, 1) := by decide +kernel
theorem dX0_emptyOnes_24 : decode cX0_emptyOnes 24 = .ok (.ishl, 1) := by decide +kernel
theorem dX0_emptyOnes_25 : decode cX0_emptyOnes 25 = .ok (.ior, 1) := by decide +kernel
theorem dX0_emptyOnes_26 : decode cX0_emptyOnes 26 = .ok (.istore_n 1, 1) := by decide +kernel
theorem dX0_emptyOnes_27 : decode cX0_emptyOnes 27 = .ok (.iinc 2 1, 3) := by decide +kernel
theorem dX0_emptyOnes_30 : decode cX0_emptyOnes 30 = .ok (.goto (-26), 3) := by decide +kernel
theorem dX0_emptyOnes_33 : decode cX0_emptyOnes 33 = .ok (.iload_n 1, 1) := by decide +kernel
theorem dX0_emptyOnes_34 : decode cX0_emptyOnes 34 = .ok (.ireturn, 1) := by decide +kernel
theorem dX0_ends_0 : decode cX0_ends 0 = .ok (.iconst 0, 1) := by decide +kernel
theorem dX0_ends_1 : decode cX0_ends 1 = .ok (.istore_n 1, 1) := by decide +kernel
theorem dX0_ends_2 : decode cX0_ends 2 = .ok (.iconst 0, 1) := by decide +kernel
theorem dX0_ends_3 : decode cX0_ends 3 = .ok (.istore_n 2, 1) := by decide +kernel
theorem dX0_ends_4 : decode cX0_ends 4 = .ok (.iload_n 2, 1) := by decide +kernel
theorem dX0_ends_5 : decode cX0_ends 5 = .ok (.aload_n 0, 1) := by decide +kernel
theorem dX0_ends_6 : decode cX0_ends 6 = .ok (.getfield 30, 3) := by decide +kernel
theorem dX0_ends_9 : decode cX0_ends 9 = .ok (.if_icmp .ge 22, 3) := by decide +kernel
theorem dX0_ends_12 : decode cX0_ends 12 = .ok (.iload_n 1, 1) := by decide +kernel
theorem dX0_ends_13 : decode cX0_ends 13 = .ok (.aload_n 0, 1) := by decide +kernel
theorem dX0_ends_14 : decode cX0_ends 14 = .ok (.getfield 21, 3) := by decide +kernel
theorem dX0_ends_17 : decode cX0_ends 17 = .ok (.iload_n 2, 1) := by decide +kernel
theorem dX0_ends_18 : decode cX0_ends 18 = .ok (.iaload, 1) := by decide +kernel
theorem dX0_ends_19 : decode cX0_ends 19 = .ok (.iconst 1, 1) := by decide +kernel
theorem dX0_ends_20 : decode cX0_ends 20 = .ok (.iand, 1) := by decide +kernel
theorem dX0_ends_21 : decode cX0_ends 21 = .ok (.iload_n 2, 1) := by decide +kernel
theorem dX0_ends_22 : decode cX0_ends 22 = .ok (.ishl, 1) := by decide +kernel
theorem dX0_ends_23 : decode cX0_ends 23 = .ok (.ior, 1) := by decide +kernel
theorem dX0_ends_24 : decode cX0_ends 24 = .ok (.istore_n 1, 1) := by decide +kernel
theorem dX0_ends_25 : decode cX0_ends 25 = .ok (.iinc 2 1, 3) := by decide +kernel
theorem dX0_ends_28 : decode cX0_ends 28 = .ok (.goto (-24), 3) := by decide +kernel
theorem dX0_ends_31 : decode cX0_ends 31 = .ok (.iload_n 1, 1) := by decide +kernel
theorem dX0_ends_32 : decode cX0_ends 32 = .ok (.ireturn, 1) := by decide +kernel
theorem dX0_manyOf_0 : decode cX0_manyOf 0 = .ok (.iconst 0, 1) := by decide +kernel
theorem dX0_manyOf_1 : decode cX0_manyOf 1 = .ok (.istore_n 2, 1) := by decide +kernel
theorem dX0_manyOf_2 : decode cX0_manyOf 2 = .ok (.iconst 0, 1) := by decide +kernel
theorem dX0_manyOf_3 : decode cX0_manyOf 3 = .ok (.istore_n 3, 1) := by decide +kernel
theorem dX0_manyOf_4 : decode cX0_manyOf 4 = .ok (.iload_n 3, 1) := by decide +kernel
theorem dX0_manyOf_5 : decode cX0_manyOf 5 = .ok (.aload_n 0, 1) := by decide +kernel
theorem dX0_manyOf_6 : decode cX0_manyOf 6 = .ok (.getfield 30, 3) := by decide +kernel
theorem dX0_manyOf_9 : decode cX0_manyOf 9 = .ok (.if_icmp .ge 21, 3) := by decide +kernel
theorem dX0_manyOf_12 : decode cX0_manyOf 12 = .ok (.aload_n 0, 1) := by decide +kernel
theorem dX0_manyOf_13 : decode cX0_manyOf 13 = .ok (.iload_n 3, 1) := by decide +kernel
theorem dX0_manyOf_14 : decode cX0_manyOf 14 = .ok (.iload_n 1, 1) := by decide +kernel
theorem dX0_manyOf_15 : decode cX0_manyOf 15 = .ok (.invokevirtual 83, 3) := by decide +kernel
theorem dX0_manyOf_18 : decode cX0_manyOf 18 = .ok (.ifCond .eq 6, 3) := by decide +kernel
theorem dX0_manyOf_21 : decode cX0_manyOf 21 = .ok (.iinc 2 1, 3) := by decide +kernel
theorem dX0_manyOf_24 : decode cX0_manyOf 24 = .ok (.iinc 3 1, 3) := by decide +kernel
theorem dX0_manyOf_27 : decode cX0_manyOf 27 = .ok (.goto (-23), 3) := by decide +kernel
theorem dX0_manyOf_30 : decode cX0_manyOf 30 = .ok (.iload_n 2, 1) := by decide +kernel
theorem dX0_manyOf_31 : decode cX0_manyOf 31 = .ok (.ireturn, 1) := by decide +kernel
theorem dX0_hasWordsOf_0 : decode cX0_hasWordsOf 0 = .ok (.iconst 0, 1) := by decide +kernel
theorem dX0_hasWordsOf_1 : decode cX0_hasWordsOf 1 = .ok (.istore_n 2, 1) := by decide +kernel
theorem dX0_hasWordsOf_2 : decode cX0_hasWordsOf 2 = .ok (.iload_n 2, 1) := by decide +kernel
theorem dX0_hasWordsOf_3 : decode cX0_hasWordsOf 3 = .ok (.aload_n 0, 1) := by decide +kernel
theorem dX0_hasWordsOf_4 : decode cX0_hasWordsOf 4 = .ok (.getfield 30, 3) := by decide +kernel
theorem dX0_hasWordsOf_7 : decode cX0_hasWordsOf 7 = .ok (.if_icmp .ge 26, 3) := by decide +kernel
theorem dX0_hasWordsOf_10 : decode cX0_hasWordsOf 10 = .ok (.aload_n 0, 1) := by decide +kernel
theorem dX0_hasWordsOf_11 : decode cX0_hasWordsOf 11 = .ok (.getfield 21, 3) := by decide +kernel
theorem dX0_hasWordsOf_14 : decode cX0_hasWordsOf 14 = .ok (.iload_n 2, 1) := by decide +kernel
theorem dX0_hasWordsOf_15 : decode cX0_hasWordsOf 15 = .ok (.iaload, 1) := by decide +kernel
theorem dX0_hasWordsOf_16 : decode cX0_hasWordsOf 16 = .ok (.aload_n 1, 1) := by decide +kernel
theorem dX0_hasWordsOf_17 : decode cX0_hasWordsOf 17 = .ok (.getfield 21, 3) := by decide +kernel
theorem dX0_hasWordsOf_20 : decode cX0_hasWordsOf 20 = .ok (.iload_n 2, 1) := by decide +kernel
theorem dX0_hasWordsOf_21 : decode cX0_hasWordsOf 21 = .ok (.iaload, 1) := by decide +kernel
theorem dX0_hasWordsOf_22 : decode cX0_hasWordsOf 22 = .ok (.if_icmp .eq 5, 3) := by decide +kernel
theorem dX0_hasWordsOf_25 : decode cX0_hasWordsOf 25 = .ok (.iconst 0, 1) := by decide +kernel
theorem dX0_hasWordsOf_26 : decode cX0_hasWordsOf 26 = .ok (.ireturn, 1) := by decide +kernel
theorem dX0_hasWordsOf_27 : decode cX0_hasWordsOf 27 = .ok (.iinc 2 1, 3) := by decide +kernel
theorem dX0_hasWordsOf_30 : decode cX0_hasWordsOf 30 = .ok (.goto (-28), 3) := by decide +kernel
theorem dX0_hasWordsOf_33 : decode cX0_hasWordsOf 33 = .ok (.iconst 1, 1) := by decide +kernel
theorem dX0_hasWordsOf_34 : decode cX0_hasWordsOf 34 = .ok (.ireturn, 1) := by decide +kernel
theorem dJ6_bitCount_0f7a4_0 : decode cJ6_bitCount_0f7a4 0 = .ok (.iload_n 0, 1) := by decide +kernel
theorem dJ6_bitCount_0f7a4_1 : decode cJ6_bitCount_0f7a4 1 = .ok (.iload_n 0, 1) := by decide +kernel
theorem dJ6_bitCount_0f7a4_2 : decode cJ6_bitCount_0f7a4 2 = .ok (.iconst 1, 1) := by decide +kernel
theorem dJ6_bitCount_0f7a4_3 : decode cJ6_bitCount_0f7a4 3 = .ok (.iushr, 1) := by decide +kernel
theorem dJ6_bitCount_0f7a4_4 : decode cJ6_bitCount_0f7a4 4 = .ok (.ldc_w 265, 3) := by decide +kernel
theorem dJ6_bitCount_0f7a4_7 : decode cJ6_bitCount_0f7a4 7 = .ok (.iand, 1) := by decide +kernel
theorem dJ6_bitCount_0f7a4_8 : decode cJ6_bitCount_0f7a4 8 = .ok (.isub, 1) := by decide +kernel
theorem dJ6_bitCount_0f7a4_9 : decode cJ6_bitCount_0f7a4 9 = .ok (.istore_n 0, 1) := by decide +kernel
theorem dJ6_bitCount_0f7a4_10 : decode cJ6_bitCount_0f7a4 10 = .ok (.iload_n 0, 1) := by decide +kernel
theorem dJ6_bitCount_0f7a4_11 : decode cJ6_bitCount_0f7a4 11 = .ok (.ldc_w 266, 3) := by decide +kernel
theorem dJ6_bitCount_0f7a4_14 : decode cJ6_bitCount_0f7a4 14 = .ok (.iand, 1) := by decide +kernel
theorem dJ6_bitCount_0f7a4_15 : decode cJ6_bitCount_0f7a4 15 = .ok (.iload_n 0, 1) := by decide +kernel
theorem dJ6_bitCount_0f7a4_16 : decode cJ6_bitCount_0f7a4 16 = .ok (.iconst 2, 1) := by decide +kernel
theorem dJ6_bitCount_0f7a4_17 : decode cJ6_bitCount_0f7a4 17 = .ok (.iushr, 1) := by decide +kernel
theorem dJ6_bitCount_0f7a4_18 : decode cJ6_bitCount_0f7a4 18 = .ok (.ldc_w 266, 3) := by decide +kernel
theorem dJ6_bitCount_0f7a4_21 : decode cJ6_bitCount_0f7a4 21 = .ok (.iand, 1) := by decide +kernel
theorem dJ6_bitCount_0f7a4_22 : decode cJ6_bitCount_0f7a4 22 = .ok (.iadd, 1) := by decide +kernel
theorem dJ6_bitCount_0f7a4_23 : decode cJ6_bitCount_0f7a4 23 = .ok (.istore_n 0, 1) := by decide +kernel
theorem dJ6_bitCount_0f7a4_24 : decode cJ6_bitCount_0f7a4 24 = .ok (.iload_n 0, 1) := by decide +kernel
theorem dJ6_bitCount_0f7a4_25 : decode cJ6_bitCount_0f7a4 25 = .ok (.iload_n 0, 1) := by decide +kernel
theorem dJ6_bitCount_0f7a4_26 : decode cJ6_bitCount_0f7a4 26 = .ok (.iconst 4, 1) := by decide +kernel
theorem dJ6_bitCount_0f7a4_27 : decode cJ6_bitCount_0f7a4 27 = .ok (.iushr, 1) := by decide +kernel
theorem dJ6_bitCount_0f7a4_28 : decode cJ6_bitCount_0f7a4 28 = .ok (.iadd, 1) := by decide +kernel
theorem dJ6_bitCount_0f7a4_29 : decode cJ6_bitCount_0f7a4 29 = .ok (.ldc_w 267, 3) := by decide +kernel
theorem dJ6_bitCount_0f7a4_32 : decode cJ6_bitCount_0f7a4 32 = .ok (.iand, 1) := by decide +kernel
theorem dJ6_bitCount_0f7a4_33 : decode cJ6_bitCount_0f7a4 33 = .ok (.istore_n 0, 1) := by decide +kernel
theorem dJ6_bitCount_0f7a4_34 : decode cJ6_bitCount_0f7a4 34 = .ok (.iload_n 0, 1) := by decide +kernel
theorem dJ6_bitCount_0f7a4_35 : decode cJ6_bitCount_0f7a4 35 = .ok (.iload_n 0, 1) := by decide +kernel
theorem dJ6_bitCount_0f7a4_36 : decode cJ6_bitCount_0f7a4 36 = .ok (.bipush 8, 2) := by decide +kernel
theorem dJ6_bitCount_0f7a4_38 : decode cJ6_bitCount_0f7a4 38 = .ok (.iushr, 1) := by decide +kernel
theorem dJ6_bitCount_0f7a4_39 : decode cJ6_bitCount_0f7a4 39 = .ok (.iadd, 1) := by decide +kernel
theorem dJ6_bitCount_0f7a4_40 : decode cJ6_bitCount_0f7a4 40 = .ok (.istore_n 0, 1) := by decide +kernel
theorem dJ6_bitCount_0f7a4_41 : decode cJ6_bitCount_0f7a4 41 = .ok (.iload_n 0, 1) := by decide +kernel
theorem dJ6_bitCount_0f7a4_42 : decode cJ6_bitCount_0f7a4 42 = .ok (.iload_n 0, 1) := by decide +kernel
theorem dJ6_bitCount_0f7a4_43 : decode cJ6_bitCount_0f7a4 43 = .ok (.bipush 16, 2) := by decide +kernel
theorem dJ6_bitCount_0f7a4_45 : decode cJ6_bitCount_0f7a4 45 = .ok (.iushr, 1) := by decide +kernel
theorem dJ6_bitCount_0f7a4_46 : decode cJ6_bitCount_0f7a4 46 = .ok (.iadd, 1) := by decide +kernel
theorem dJ6_bitCount_0f7a4_47 : decode cJ6_bitCount_0f7a4 47 = .ok (.istore_n 0, 1) := by decide +kernel
theorem dJ6_bitCount_0f7a4_48 : decode cJ6_bitCount_0f7a4 48 = .ok (.iload_n 0, 1) := by decide +kernel
theorem dJ6_bitCount_0f7a4_49 : decode cJ6_bitCount_0f7a4 49 = .ok (.bipush 63, 2) := by decide +kernel
theorem dJ6_bitCount_0f7a4_51 : decode cJ6_bitCount_0f7a4 51 = .ok (.iand, 1) := by decide +kernel
theorem dJ6_bitCount_0f7a4_52 : decode cJ6_bitCount_0f7a4 52 = .ok (.ireturn, 1) := by decide +kernel
