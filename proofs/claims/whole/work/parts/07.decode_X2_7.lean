theorem dX2_notes_5 : decode cX2_notes 5 = .ok (.aload_n 0, 1) := by decide +kernel
theorem dX2_notes_6 : decode cX2_notes 6 = .ok (.getfield 37, 3) := by decide +kernel
theorem dX2_notes_9 : decode cX2_notes 9 = .ok (.bipush 15, 2) := by decide +kernel
theorem dX2_notes_11 : decode cX2_notes 11 = .ok (.aload_n 0, 1) := by decide +kernel
theorem dX2_notes_12 : decode cX2_notes 12 = .ok (.getfield 121, 3) := by decide +kernel
theorem dX2_notes_15 : decode cX2_notes 15 = .ok (.imul, 1) := by decide +kernel
theorem dX2_notes_16 : decode cX2_notes 16 = .ok (.bipush 15, 2) := by decide +kernel
theorem dX2_notes_18 : decode cX2_notes 18 = .ok (.invokestatic 117, 3) := by decide +kernel
theorem dX2_notes_21 : decode cX2_notes 21 = .ok (.aload_n 0, 1) := by decide +kernel
theorem dX2_notes_22 : decode cX2_notes 22 = .ok (.dup, 1) := by decide +kernel
theorem dX2_notes_23 : decode cX2_notes 23 = .ok (.getfield 121, 3) := by decide +kernel
theorem dX2_notes_26 : decode cX2_notes 26 = .ok (.iconst 1, 1) := by decide +kernel
theorem dX2_notes_27 : decode cX2_notes 27 = .ok (.iadd, 1) := by decide +kernel
theorem dX2_notes_28 : decode cX2_notes 28 = .ok (.putfield 121, 3) := by decide +kernel
theorem dX2_notes_31 : decode cX2_notes 31 = .ok (.return_, 1) := by decide +kernel
theorem dX2_tick_0 : decode cX2_tick 0 = .ok (.aload_n 0, 1) := by decide +kernel
theorem dX2_tick_1 : decode cX2_tick 1 = .ok (.getfield 79, 3) := by decide +kernel
theorem dX2_tick_4 : decode cX2_tick 4 = .ok (.ifCond .eq 14, 3) := by decide +kernel
theorem dX2_tick_7 : decode cX2_tick 7 = .ok (.aload_n 0, 1) := by decide +kernel
theorem dX2_tick_8 : decode cX2_tick 8 = .ok (.getfield 31, 3) := by decide +kernel
theorem dX2_tick_11 : decode cX2_tick 11 = .ok (.iconst 0, 1) := by decide +kernel
theorem dX2_tick_12 : decode cX2_tick 12 = .ok (.iaload, 1) := by decide +kernel
theorem dX2_tick_13 : decode cX2_tick 13 = .ok (.bipush 99, 2) := by decide +kernel
theorem dX2_tick_15 : decode cX2_tick 15 = .ok (.if_icmp .ne 6, 3) := by decide +kernel
theorem dX2_tick_18 : decode cX2_tick 18 = .ok (.bipush (-4), 2) := by decide +kernel
theorem dX2_tick_20 : decode cX2_tick 20 = .ok (.ireturn, 1) := by decide +kernel
theorem dX2_tick_21 : decode cX2_tick 21 = .ok (.aload_n 0, 1) := by decide +kernel
theorem dX2_tick_22 : decode cX2_tick 22 = .ok (.getfield 121, 3) := by decide +kernel
theorem dX2_tick_25 : decode cX2_tick 25 = .ok (.bipush 40, 2) := by decide +kernel
theorem dX2_tick_27 : decode cX2_tick 27 = .ok (.if_icmp .ne 6, 3) := by decide +kernel
theorem dX2_tick_30 : decode cX2_tick 30 = .ok (.bipush (-2), 2) := by decide +kernel
theorem dX2_tick_32 : decode cX2_tick 32 = .ok (.ireturn, 1) := by decide +kernel
theorem dX2_tick_33 : decode cX2_tick 33 = .ok (.aload_n 0, 1) := by decide +kernel
theorem dX2_tick_34 : decode cX2_tick 34 = .ok (.invokevirtual 155, 3) := by decide +kernel
theorem dX2_tick_37 : decode cX2_tick 37 = .ok (.aload_n 0, 1) := by decide +kernel
theorem dX2_tick_38 : decode cX2_tick 38 = .ok (.aload_n 0, 1) := by decide +kernel
theorem dX2_tick_39 : decode cX2_tick 39 = .ok (.getfield 31, 3) := by decide +kernel
theorem dX2_tick_42 : decode cX2_tick 42 = .ok (.invokevirtual 158, 3) := by decide +kernel
theorem dX2_tick_45 : decode cX2_tick 45 = .ok (.aload_n 0, 1) := by decide +kernel
theorem dX2_tick_46 : decode cX2_tick 46 = .ok (.aload_n 0, 1) := by decide +kernel
theorem dX2_tick_47 : decode cX2_tick 47 = .ok (.getfield 31, 3) := by decide +kernel
theorem dX2_tick_50 : decode cX2_tick 50 = .ok (.invokevirtual 162, 3) := by decide +kernel
theorem dX2_tick_53 : decode cX2_tick 53 = .ok (.ireturn, 1) := by decide +kernel
theorem dX2_set_0 : decode cX2_set 0 = .ok (.aload_n 0, 1) := by decide +kernel
theorem dX2_set_1 : decode cX2_set 1 = .ok (.iload_n 1, 1) := by decide +kernel
theorem dX2_set_2 : decode cX2_set 2 = .ok (.invokevirtual 145, 3) := by decide +kernel
theorem dX2_set_5 : decode cX2_set 5 = .ok (.ifCond .eq 19, 3) := by decide +kernel
theorem dX2_set_8 : decode cX2_set 8 = .ok (.iload_n 2, 1) := by decide +kernel
theorem dX2_set_9 : decode cX2_set 9 = .ok (.iconst 0, 1) := by decide +kernel
theorem dX2_set_10 : decode cX2_set 10 = .ok (.aload_n 0, 1) := by decide +kernel
theorem dX2_set_11 : decode cX2_set 11 = .ok (.getfield 25, 3) := by decide +kernel
theorem dX2_set_14 : decode cX2_set 14 = .ok (.iload_n 1, 1) := by decide +kernel
theorem dX2_set_15 : decode cX2_set 15 = .ok (.iaload, 1) := by decide +kernel
theorem dX2_set_16 : decode cX2_set 16 = .ok (.iconst 1, 1) := by decide +kernel
theorem dX2_set_17 : decode cX2_set 17 = .ok (.isub, 1) := by decide +kernel
theorem dX2_set_18 : decode cX2_set 18 = .ok (.invokestatic 82, 3) := by decide +kernel
theorem dX2_set_21 : decode cX2_set 21 = .ok (.ifCond .ne 5, 3) := by decide +kernel
theorem dX2_set_24 : decode cX2_set 24 = .ok (.iconst (-1), 1) := by decide +kernel
theorem dX2_set_25 : decode cX2_set 25 = .ok (.ireturn, 1) := by decide +kernel
theorem dX2_set_26 : decode cX2_set 26 = .ok (.aload_n 0, 1) := by decide +kernel
theorem dX2_set_27 : decode cX2_set 27 = .ok (.getfield 121, 3) := by decide +kernel
theorem dX2_set_30 : decode cX2_set 30 = .ok (.bipush 40, 2) := by decide +kernel
theorem dX2_set_32 : decode cX2_set 32 = .ok (.if_icmp .ne 6, 3) := by decide +kernel
theorem dX2_set_35 : decode cX2_set 35 = .ok (.bipush (-2), 2) := by decide +kernel
theorem dX2_set_37 : decode cX2_set 37 = .ok (.ireturn, 1) := by decide +kernel
theorem dX2_set_38 : decode cX2_set 38 = .ok (.aload_n 0, 1) := by decide +kernel
theorem dX2_set_39 : decode cX2_set 39 = .ok (.invokevirtual 155, 3) := by decide +kernel
theorem dX2_set_42 : decode cX2_set 42 = .ok (.aload_n 0, 1) := by decide +kernel
theorem dX2_set_43 : decode cX2_set 43 = .ok (.getfield 31, 3) := by decide +kernel
theorem dX2_set_46 : decode cX2_set 46 = .ok (.iconst 1, 1) := by decide +kernel
theorem dX2_set_47 : decode cX2_set 47 = .ok (.iload_n 1, 1) := by decide +kernel
theorem dX2_set_48 : decode cX2_set 48 = .ok (.iadd, 1) := by decide +kernel
theorem dX2_set_49 : decode cX2_set 49 = .ok (.dup2, 1) := by decide +kernel
theorem dX2_set_50 : decode cX2_set 50 = .ok (.iaload, 1) := by decide +kernel
theorem dX2_set_51 : decode cX2_set 51 = .ok (.iconst 1, 1) := by decide +kernel
theorem dX2_set_52 : decode cX2_set 52 = .ok (.iload_n 2, 1) := by decide +kernel
theorem dX2_set_53 : decode cX2_set 53 = .ok (.ishl, 1) := by decide +kernel
theorem dX2_set_54 : decode cX2_set 54 = .ok (.ixor, 1) := by decide +kernel
theorem dX2_set_55 : decode cX2_set 55 = .ok (.iastore, 1) := by decide +kernel
theorem dX2_set_56 : decode cX2_set 56 = .ok (.aload_n 0, 1) := by decide +kernel
theorem dX2_set_57 : decode cX2_set 57 = .ok (.getfield 31, 3) := by decide +kernel
theorem dX2_set_60 : decode cX2_set 60 = .ok (.iconst 1, 1) := by decide +kernel
theorem dX2_set_61 : decode cX2_set 61 = .ok (.iload_n 1, 1) := by decide +kernel
theorem dX2_set_62 : decode cX2_set 62 = .ok (.iadd, 1) := by decide +kernel
theorem dX2_set_63 : decode cX2_set 63 = .ok (.iaload, 1) := by decide +kernel
theorem dX2_set_64 : decode cX2_set 64 = .ok (.ireturn, 1) := by decide +kernel
theorem dX2_swapped_0 : decode cX2_swapped 0 = .ok (.aload_n 0, 1) := by decide +kernel
theorem dX2_swapped_1 : decode cX2_swapped 1 = .ok (.bipush 8, 2) := by decide +kernel
theorem dX2_swapped_3 : decode cX2_swapped 3 = .ok (.iload_n 1, 1) := by decide +kernel
theorem dX2_swapped_4 : decode cX2_swapped 4 = .ok (.iadd, 1) := by decide +kernel
theorem dX2_swapped_5 : decode cX2_swapped 5 = .ok (.iaload, 1) := by decide +kernel
theorem dX2_swapped_6 : decode cX2_swapped 6 = .ok (.istore_n 3, 1) := by decide +kernel
theorem dX2_swapped_7 : decode cX2_swapped 7 = .ok (.aload_n 0, 1) := by decide +kernel
theorem dX2_swapped_8 : decode cX2_swapped 8 = .ok (.bipush 8, 2) := by decide +kernel
theorem dX2_swapped_10 : decode cX2_swapped 10 = .ok (.iload_n 1, 1) := by decide +kernel
theorem dX2_swapped_11 : decode cX2_swapped 11 = .ok (.iadd, 1) := by decide +kernel
theorem dX2_swapped_12 : decode cX2_swapped 12 = .ok (.aload_n 0, 1) := by decide +kernel
theorem dX2_swapped_13 : decode cX2_swapped 13 = .ok (.bipush 8, 2) := by decide +kernel
theorem dX2_swapped_15 : decode cX2_swapped 15 = .ok (.iload_n 2, 1) := by decide +kernel
theorem dX2_swapped_16 : decode cX2_swapped 16 = .ok (.iadd, 1) := by decide +kernel
theorem dX2_swapped_17 : decode cX2_swapped 17 = .ok (.iaload, 1) := by decide +kernel
theorem dX2_swapped_18 : decode cX2_swapped 18 = .ok (.iastore, 1) := by decide +kernel
theorem dX2_swapped_19 : decode cX2_swapped 19 = .ok (.aload_n 0, 1) := by decide +kernel
theorem dX2_swapped_20 : decode cX2_swapped 20 = .ok (.bipush 8, 2) := by decide +kernel
theorem dX2_swapped_22 : decode cX2_swapped 22 = .ok (.iload_n 2, 1) := by decide +kernel
theorem dX2_swapped_23 : decode cX2_swapped 23 = .ok (.iadd, 1) := by decide +kernel
theorem dX2_swapped_24 : decode cX2_swapped 24 = .ok (.iload_n 3, 1) := by decide +kernel
theorem dX2_swapped_25 : decode cX2_swapped 25 = .ok (.iastore, 1) := by decide +kernel
theorem dX2_swapped_26 : decode cX2_swapped 26 = .ok (.return_, 1) := by decide +kernel
theorem dX2_swap_0 : decode cX2_swap 0 = .ok (.aload_n 0, 1) := by decide +kernel
theorem dX2_swap_1 : decode cX2_swap 1 = .ok (.iload_n 1, 1) := by decide +kernel
theorem dX2_swap_2 : decode cX2_swap 2 = .ok (.invokevirtual 145, 3) := by decide +kernel
theorem dX2_swap_5 : decode cX2_swap 5 = .ok (.ifCond .eq 16, 3) := by decide +kernel
theorem dX2_swap_8 : decode cX2_swap 8 = .ok (.aload_n 0, 1) := by decide +kernel
theorem dX2_swap_9 : decode cX2_swap 9 = .ok (.iload_n 2, 1) := by decide +kernel
theorem dX2_swap_10 : decode cX2_swap 10 = .ok (.invokevirtual 145, 3) := by decide +kernel
theorem dX2_swap_13 : decode cX2_swap 13 = .ok (.ifCond .eq 8, 3) := by decide +kernel
theorem dX2_swap_16 : decode cX2_swap 16 = .ok (.iload_n 1, 1) := by decide +kernel
theorem dX2_swap_17 : decode cX2_swap 17 = .ok (.iload_n 2, 1) := by decide +kernel
theorem dX2_swap_18 : decode cX2_swap 18 = .ok (.if_icmp .ne 5, 3) := by decide +kernel
theorem dX2_swap_21 : decode cX2_swap 21 = .ok (.iconst (-1), 1) := by decide +kernel
theorem dX2_swap_22 : decode cX2_swap 22 = .ok (.ireturn, 1) := by decide +kernel
theorem dX2_swap_23 : decode cX2_swap 23 = .ok (.aload_n 0, 1) := by decide +kernel
theorem dX2_swap_24 : decode cX2_swap 24 = .ok (.getfield 121, 3) := by decide +kernel
theorem dX2_swap_27 : decode cX2_swap 27 = .ok (.bipush 40, 2) := by decide +kernel
theorem dX2_swap_29 : decode cX2_swap 29 = .ok (.if_icmp .ne 6, 3) := by decide +kernel
theorem dX2_swap_32 : decode cX2_swap 32 = .ok (.bipush (-2), 2) := by decide +kernel
theorem dX2_swap_34 : decode cX2_swap 34 = .ok (.ireturn, 1) := by decide +kernel
theorem dX2_swap_35 : decode cX2_swap 35 = .ok (.aload_n 0, 1) := by decide +kernel
theorem dX2_swap_36 : decode cX2_swap 36 = .ok (.invokevirtual 155, 3) := by decide +kernel
theorem dX2_swap_39 : decode cX2_swap 39 = .ok (.aload_n 0, 1) := by decide +kernel
theorem dX2_swap_40 : decode cX2_swap 40 = .ok (.getfield 31, 3) := by decide +kernel
theorem dX2_swap_43 : decode cX2_swap 43 = .ok (.iload_n 1, 1) := by decide +kernel
theorem dX2_swap_44 : decode cX2_swap 44 = .ok (.iload_n 2, 1) := by decide +kernel
theorem dX2_swap_45 : decode cX2_swap 45 = .ok (.invokestatic 166, 3) := by decide +kernel
theorem dX2_swap_48 : decode cX2_swap 48 = .ok (.aload_n 0, 1) := by decide +kernel
theorem dX2_swap_49 : decode cX2_swap 49 = .ok (.getfield 31, 3) := by decide +kernel
theorem dX2_swap_52 : decode cX2_swap 52 = .ok (.bipush 8, 2) := by decide +kernel
theorem dX2_swap_54 : decode cX2_swap 54 = .ok (.iload_n 1, 1) := by decide +kernel
theorem dX2_swap_55 : decode cX2_swap 55 = .ok (.iadd, 1) := by decide +kernel
theorem dX2_swap_56 : decode cX2_swap 56 = .ok (.iaload, 1) := by decide +kernel
theorem dX2_swap_57 : decode cX2_swap 57 = .ok (.ireturn, 1) := by decide +kernel
theorem dX2_isWord_0 : decode cX2_isWord 0 = .ok (.iload_n 2, 1) := by decide +kernel
theorem dX2_isWord_1 : decode cX2_isWord 1 = .ok (.ifCond .lt 18, 3) := by decide +kernel
theorem dX2_isWord_4 : decode cX2_isWord 4 = .ok (.iload_n 2, 1) := by decide +kernel
theorem dX2_isWord_5 : decode cX2_isWord 5 = .ok (.aload_n 0, 1) := by decide +kernel
theorem dX2_isWord_6 : decode cX2_isWord 6 = .ok (.getfield 25, 3) := by decide +kernel
theorem dX2_isWord_9 : decode cX2_isWord 9 = .ok (.iload_n 1, 1) := by decide +kernel
theorem dX2_isWord_10 : decode cX2_isWord 10 = .ok (.iaload, 1) := by decide +kernel
theorem dX2_isWord_11 : decode cX2_isWord 11 = .ok (.ishr, 1) := by decide +kernel
theorem dX2_isWord_12 : decode cX2_isWord 12 = .ok (.ifCond .ne 7, 3) := by decide +kernel
theorem dX2_isWord_15 : decode cX2_isWord 15 = .ok (.iconst 1, 1) := by decide +kernel
theorem dX2_isWord_16 : decode cX2_isWord 16 = .ok (.goto 4, 3) := by decide +kernel
theorem dX2_isWord_19 : decode cX2_isWord 19 = .ok (.iconst 0, 1) := by decide +kernel
theorem dX2_isWord_20 : decode cX2_isWord 20 = .ok (.ireturn, 1) := by decide +kernel
theorem dX2_word_0 : decode cX2_word 0 = .ok (.aload_n 0, 1) := by decide +kernel
theorem dX2_word_1 : decode cX2_word 1 = .ok (.iload_n 1, 1) := by decide +kernel
theorem dX2_word_2 : decode cX2_word 2 = .ok (.invokevirtual 145, 3) := by decide +kernel
theorem dX2_word_5 : decode cX2_word 5 = .ok (.ifCond .eq 12, 3) := by decide +kernel
theorem dX2_word_8 : decode cX2_word 8 = .ok (.aload_n 0, 1) := by decide +kernel
theorem dX2_word_9 : decode cX2_word 9 = .ok (.iload_n 1, 1) := by decide +kernel
theorem dX2_word_10 : decode cX2_word 10 = .ok (.iload_n 2, 1) := by decide +kernel
theorem dX2_word_11 : decode cX2_word 11 = .ok (.invokevirtual 170, 3) := by decide +kernel
theorem dX2_word_14 : decode cX2_word 14 = .ok (.ifCond .ne 5, 3) := by decide +kernel
theorem dX2_word_17 : decode cX2_word 17 = .ok (.iconst (-1), 1) := by decide +kernel
theorem dX2_word_18 : decode cX2_word 18 = .ok (.ireturn, 1) := by decide +kernel
theorem dX2_word_19 : decode cX2_word 19 = .ok (.aload_n 0, 1) := by decide +kernel
theorem dX2_word_20 : decode cX2_word 20 = .ok (.getfield 31, 3) := by decide +kernel
theorem dX2_word_23 : decode cX2_word 23 = .ok (.iconst 1, 1) := by decide +kernel
theorem dX2_word_24 : decode cX2_word 24 = .ok (.iload_n 1, 1) := by decide +kernel
theorem dX2_word_25 : decode cX2_word 25 = .ok (.iadd, 1) := by decide +kernel
theorem dX2_word_26 : decode cX2_word 26 = .ok (.iaload, 1) := by decide +kernel
theorem dX2_word_27 : decode cX2_word 27 = .ok (.istore_n 3, 1) := by decide +kernel
theorem dX2_word_28 : decode cX2_word 28 = .ok (.iload_n 3, 1) := by decide +kernel
theorem dX2_word_29 : decode cX2_word 29 = .ok (.iload_n 2, 1) := by decide +kernel
theorem dX2_word_30 : decode cX2_word 30 = .ok (.if_icmp .ne 6, 3) := by decide +kernel
theorem dX2_word_33 : decode cX2_word 33 = .ok (.bipush (-4), 2) := by decide +kernel
theorem dX2_word_35 : decode cX2_word 35 = .ok (.ireturn, 1) := by decide +kernel
theorem dX2_word_36 : decode cX2_word 36 = .ok (.aload_n 0, 1) := by decide +kernel
theorem dX2_word_37 : decode cX2_word 37 = .ok (.getfield 121, 3) := by decide +kernel
theorem dX2_word_40 : decode cX2_word 40 = .ok (.bipush 40, 2) := by decide +kernel
theorem dX2_word_42 : decode cX2_word 42 = .ok (.if_icmp .ne 6, 3) := by decide +kernel
theorem dX2_word_45 : decode cX2_word 45 = .ok (.bipush (-2), 2) := by decide +kernel
theorem dX2_word_47 : decode cX2_word 47 = .ok (.ireturn, 1) := by decide +kernel
theorem dX2_word_48 : decode cX2_word 48 = .ok (.aload_n 0, 1) := by decide +kernel
theorem dX2_word_49 : decode cX2_word 49 = .ok (.invokevirtual 155, 3) := by decide +kernel
theorem dX2_word_52 : decode cX2_word 52 = .ok (.aload_n 0, 1) := by decide +kernel
theorem dX2_word_53 : decode cX2_word 53 = .ok (.getfield 31, 3) := by decide +kernel
theorem dX2_word_56 : decode cX2_word 56 = .ok (.iconst 1, 1) := by decide +kernel
theorem dX2_word_57 : decode cX2_word 57 = .ok (.iload_n 1, 1) := by decide +kernel
theorem dX2_word_58 : decode cX2_word 58 = .ok (.iadd, 1) := by decide +kernel
theorem dX2_word_59 : decode cX2_word 59 = .ok (.iload_n 2, 1) := by decide +kernel
theorem dX2_word_60 : decode cX2_word 60 = .ok (.iastore, 1) := by decide +kernel
theorem dX2_word_61 : decode cX2_word 61 = .ok (.iload_n 3, 1) := by decide +kernel
theorem dX2_word_62 : decode cX2_word 62 = .ok (.ireturn, 1) := by decide +kernel
theorem dX2_undo_0 : decode cX2_undo 0 = .ok (.iload_n 1, 1) := by decide +kernel
theorem dX2_undo_1 : decode cX2_undo 1 = .ok (.iconst 0, 1) := by decide +kernel
theorem dX2_undo_2 : decode cX2_undo 2 = .ok (.aload_n 0, 1) := by decide +kernel
theorem dX2_undo_3 : decode cX2_undo 3 = .ok (.getfield 121, 3) := by decide +kernel
theorem dX2_undo_6 : decode cX2_undo 6 = .ok (.invokestatic 82, 3) := by decide +kernel
theorem dX2_undo_9 : decode cX2_undo 9 = .ok (.ifCond .ne 5, 3) := by decide +kernel
theorem dX2_undo_12 : decode cX2_undo 12 = .ok (.iconst (-1), 1) := by decide +kernel
theorem dX2_undo_13 : decode cX2_undo 13 = .ok (.ireturn, 1) := by decide +kernel
theorem dX2_undo_14 : decode cX2_undo 14 = .ok (.aload_n 0, 1) := by decide +kernel
theorem dX2_undo_15 : decode cX2_undo 15 = .ok (.getfield 121, 3) := by decide +kernel
theorem dX2_undo_18 : decode cX2_undo 18 = .ok (.iload_n 1, 1) := by decide +kernel
theorem dX2_undo_19 : decode cX2_undo 19 = .ok (.isub, 1) := by decide +kernel
theorem dX2_undo_20 : decode cX2_undo 20 = .ok (.istore_n 2, 1) := by decide +kernel
theorem dX2_undo_21 : decode cX2_undo 21 = .ok (.iload_n 2, 1) := by decide +kernel
theorem dX2_undo_22 : decode cX2_undo 22 = .ok (.ifCond .le 21, 3) := by decide +kernel
theorem dX2_undo_25 : decode cX2_undo 25 = .ok (.aload_n 0, 1) := by decide +kernel
theorem dX2_undo_26 : decode cX2_undo 26 = .ok (.getfield 37, 3) := by decide +kernel
theorem dX2_undo_29 : decode cX2_undo 29 = .ok (.bipush 15, 2) := by decide +kernel
theorem dX2_undo_31 : decode cX2_undo 31 = .ok (.iload_n 1, 1) := by decide +kernel
theorem dX2_undo_32 : decode cX2_undo 32 = .ok (.imul, 1) := by decide +kernel
theorem dX2_undo_33 : decode cX2_undo 33 = .ok (.aload_n 0, 1) := by decide +kernel
theorem dX2_undo_34 : decode cX2_undo 34 = .ok (.getfield 31, 3) := by decide +kernel
theorem dX2_undo_37 : decode cX2_undo 37 = .ok (.iconst 0, 1) := by decide +kernel
theorem dX2_undo_38 : decode cX2_undo 38 = .ok (.bipush 15, 2) := by decide +kernel
theorem dX2_undo_40 : decode cX2_undo 40 = .ok (.invokestatic 117, 3) := by decide +kernel
theorem dX2_undo_43 : decode cX2_undo 43 = .ok (.aload_n 0, 1) := by decide +kernel
theorem dX2_undo_44 : decode cX2_undo 44 = .ok (.iload_n 1, 1) := by decide +kernel
theorem dX2_undo_45 : decode cX2_undo 45 = .ok (.putfield 121, 3) := by decide +kernel
theorem dX2_undo_48 : decode cX2_undo 48 = .ok (.iload_n 2, 1) := by decide +kernel
theorem dX2_undo_49 : decode cX2_undo 49 = .ok (.ireturn, 1) := by decide +kernel
theorem dX2_keep_0 : decode cX2_keep 0 = .ok (.iload_n 1, 1) := by decide +kernel
theorem dX2_keep_1 : decode cX2_keep 1 = .ok (.iconst 0, 1) := by decide +kernel
theorem dX2_keep_2 : decode cX2_keep 2 = .ok (.iconst 2, 1) := by decide +kernel
theorem dX2_keep_3 : decode cX2_keep 3 = .ok (.invokestatic 82, 3) := by decide +kernel
theorem dX2_keep_6 : decode cX2_keep 6 = .ok (.ifCond .ne 5, 3) := by decide +kernel
theorem dX2_keep_9 : decode cX2_keep 9 = .ok (.iconst (-1), 1) := by decide +kernel
theorem dX2_keep_10 : decode cX2_keep 10 = .ok (.ireturn, 1) := by decide +kernel
theorem dX2_keep_11 : decode cX2_keep 11 = .ok (.aload_n 0, 1) := by decide +kernel
theorem dX2_keep_12 : decode cX2_keep 12 = .ok (.getfield 79, 3) := by decide +kernel
theorem dX2_keep_15 : decode cX2_keep 15 = .ok (.ifCond .ne 6, 3) := by decide +kernel
theorem dX2_keep_18 : decode cX2_keep 18 = .ok (.bipush (-4), 2) := by decide +kernel
theorem dX2_keep_20 : decode cX2_keep 20 = .ok (.ireturn, 1) := by decide +kernel
theorem dX2_keep_21 : decode cX2_keep 21 = .ok (.sipush 616, 3) := by decide +kernel
theorem dX2_keep_24 : decode cX2_keep 24 = .ok (.iload_n 1, 1) := by decide +kernel
theorem dX2_keep_25 : decode cX2_keep 25 = .ok (.imul, 1) := by decide +kernel
theorem dX2_keep_26 : decode cX2_keep 26 = .ok (.istore_n 2, 1) := by decide +kernel
theorem dX2_keep_27 : decode cX2_keep 27 = .ok (.aload_n 0, 1) := by decide +kernel
theorem dX2_keep_28 : decode cX2_keep 28 = .ok (.getfield 43, 3) := by decide +kernel
theorem dX2_keep_31 : decode cX2_keep 31 = .ok (.iload_n 1, 1) := by decide +kernel
theorem dX2_keep_32 : decode cX2_keep 32 = .ok (.iconst 1, 1) := by decide +kernel
theorem dX2_keep_33 : decode cX2_keep 33 = .ok (.bastore, 1) := by decide +kernel
theorem dX2_keep_34 : decode cX2_keep 34 = .ok (.aload_n 0, 1) := by decide +kernel
theorem dX2_keep_35 : decode cX2_keep 35 = .ok (.getfield 40, 3) := by decide +kernel
theorem dX2_keep_38 : decode cX2_keep 38 = .ok (.iload_n 2, 1) := by decide +kernel
theorem dX2_keep_39 : decode cX2_keep 39 = .ok (.aload_n 0, 1) := by decide +kernel
theorem dX2_keep_40 : decode cX2_keep 40 = .ok (.getfield 121, 3) := by decide +kernel
theorem dX2_keep_43 : decode cX2_keep 43 = .ok (.iastore, 1) := by decide +kernel
theorem dX2_keep_44 : decode cX2_keep 44 = .ok (.aload_n 0, 1) := by decide +kernel
theorem dX2_keep_45 : decode cX2_keep 45 = .ok (.getfield 31, 3) := by decide +kernel
theorem dX2_keep_48 : decode cX2_keep 48 = .ok (.iconst 0, 1) := by decide +kernel
theorem dX2_keep_49 : decode cX2_keep 49 = .ok (.aload_n 0, 1) := by decide +kernel
theorem dX2_keep_50 : decode cX2_keep 50 = .ok (.getfield 40, 3) := by decide +kernel
theorem dX2_keep_53 : decode cX2_keep 53 = .ok (.iload_n 2, 1) := by decide +kernel
theorem dX2_keep_54 : decode cX2_keep 54 = .ok (.iconst 1, 1) := by decide +kernel
theorem dX2_keep_55 : decode cX2_keep 55 = .ok (.iadd, 1) := by decide +kernel
theorem dX2_keep_56 : decode cX2_keep 56 = .ok (.bipush 15, 2) := by decide +kernel
theorem dX2_keep_58 : decode cX2_keep 58 = .ok (.invokestatic 117, 3) := by decide +kernel
theorem dX2_keep_61 : decode cX2_keep 61 = .ok (.aload_n 0, 1) := by decide +kernel
theorem dX2_keep_62 : decode cX2_keep 62 = .ok (.getfield 37, 3) := by decide +kernel
theorem dX2_keep_65 : decode cX2_keep 65 = .ok (.iconst 0, 1) := by decide +kernel
theorem dX2_keep_66 : decode cX2_keep 66 = .ok (.aload_n 0, 1) := by decide +kernel
theorem dX2_keep_67 : decode cX2_keep 67 = .ok (.getfield 40, 3) := by decide +kernel
theorem dX2_keep_70 : decode cX2_keep 70 = .ok (.iload_n 2, 1) := by decide +kernel
theorem dX2_keep_71 : decode cX2_keep 71 = .ok (.iconst 1, 1) := by decide +kernel
theorem dX2_keep_72 : decode cX2_keep 72 = .ok (.iadd, 1) := by decide +kernel
theorem dX2_keep_73 : decode cX2_keep 73 = .ok (.bipush 15, 2) := by decide +kernel
theorem dX2_keep_75 : decode cX2_keep 75 = .ok (.iadd, 1) := by decide +kernel
theorem dX2_keep_76 : decode cX2_keep 76 = .ok (.sipush 600, 3) := by decide +kernel
theorem dX2_keep_79 : decode cX2_keep 79 = .ok (.invokestatic 117, 3) := by decide +kernel
theorem dX2_keep_82 : decode cX2_keep 82 = .ok (.aload_n 0, 1) := by decide +kernel
theorem dX2_keep_83 : decode cX2_keep 83 = .ok (.getfield 121, 3) := by decide +kernel
theorem dX2_keep_86 : decode cX2_keep 86 = .ok (.ireturn, 1) := by decide +kernel
theorem dX2_on_0 : decode cX2_on 0 = .ok (.iload_n 1, 1) := by decide +kernel
theorem dX2_on_1 : decode cX2_on 1 = .ok (.iconst 0, 1) := by decide +kernel
theorem dX2_on_2 : decode cX2_on 2 = .ok (.iconst 2, 1) := by decide +kernel
theorem dX2_on_3 : decode cX2_on 3 = .ok (.invokestatic 82, 3) := by decide +kernel
theorem dX2_on_6 : decode cX2_on 6 = .ok (.ifCond .ne 5, 3) := by decide +kernel
theorem dX2_on_9 : decode cX2_on 9 = .ok (.iconst (-1), 1) := by decide +kernel
theorem dX2_on_10 : decode cX2_on 10 = .ok (.ireturn, 1) := by decide +kernel
theorem dX2_on_11 : decode cX2_on 11 = .ok (.aload_n 0, 1) := by decide +kernel
theorem dX2_on_12 : decode cX2_on 12 = .ok (.getfield 43, 3) := by decide +kernel
theorem dX2_on_15 : decode cX2_on 15 = .ok (.iload_n 1, 1) := by decide +kernel
theorem dX2_on_16 : decode cX2_on 16 = .ok (.baload, 1) := by decide +kernel
theorem dX2_on_17 : decode cX2_on 17 = .ok (.ifCond .ne 9, 3) := by decide +kernel
theorem dX2_on_20 : decode cX2_on 20 = .ok (.aload_n 0, 1) := by decide +kernel
theorem dX2_on_21 : decode cX2_on 21 = .ok (.iconst 1, 1) := by decide +kernel
theorem dX2_on_22 : decode cX2_on 22 = .ok (.invokevirtual 90, 3) := by decide +kernel
theorem dX2_on_25 : decode cX2_on 25 = .ok (.ireturn, 1) := by decide +kernel
theorem dX2_on_26 : decode cX2_on 26 = .ok (.sipush 616, 3) := by decide +kernel
theorem dX2_on_29 : decode cX2_on 29 = .ok (.iload_n 1, 1) := by decide +kernel
theorem dX2_on_30 : decode cX2_on 30 = .ok (.imul, 1) := by decide +kernel
theorem dX2_on_31 : decode cX2_on 31 = .ok (.istore_n 2, 1) := by decide +kernel
theorem dX2_on_32 : decode cX2_on 32 = .ok (.aload_n 0, 1) := by decide +kernel
theorem dX2_on_33 : decode cX2_on 33 = .ok (.aload_n 0, 1) := by decide +kernel
theorem dX2_on_34 : decode cX2_on 34 = .ok (.getfield 40, 3) := by decide +kernel
theorem dX2_on_37 : decode cX2_on 37 = .ok (.iload_n 2, 1) := by decide +kernel
theorem dX2_on_38 : decode cX2_on 38 = .ok (.iaload, 1) := by decide +kernel
theorem dX2_on_39 : decode cX2_on 39 = .ok (.putfield 121, 3) := by decide +kernel
theorem dX2_on_42 : decode cX2_on 42 = .ok (.aload_n 0, 1) := by decide +kernel
theorem dX2_on_43 : decode cX2_on 43 = .ok (.getfield 40, 3) := by decide +kernel
theorem dX2_on_46 : decode cX2_on 46 = .ok (.iload_n 2, 1) := by decide +kernel
theorem dX2_on_47 : decode cX2_on 47 = .ok (.iconst 1, 1) := by decide +kernel
theorem dX2_on_48 : decode cX2_on 48 = .ok (.iadd, 1) := by decide +kernel
theorem dX2_on_49 : decode cX2_on 49 = .ok (.aload_n 0, 1) := by decide +kernel
theorem dX2_on_50 : decode cX2_on 50 = .ok (.getfield 31, 3) := by decide +kernel
theorem dX2_on_53 : decode cX2_on 53 = .ok (.iconst 0, 1) := by decide +kernel
theorem dX2_on_54 : decode cX2_on 54 = .ok (.bipush 15, 2) := by decide +kernel
theorem dX2_on_56 : decode cX2_on 56 = .ok (.invokestatic 117, 3) := by decide +kernel
theorem dX2_on_59 : decode cX2_on 59 = .ok (.aload_n 0, 1) := by decide +kernel
theorem dX2_on_60 : decode cX2_on 60 = .ok (.getfield 40, 3) := by decide +kernel
theorem dX2_on_63 : decode cX2_on 63 = .ok (.iload_n 2, 1) := by decide +kernel
theorem dX2_on_64 : decode cX2_on 64 = .ok (.iconst 1, 1) := by decide +kernel
theorem dX2_on_65 : decode cX2_on 65 = .ok (.iadd, 1) := by decide +kernel
theorem dX2_on_66 : decode cX2_on 66 = .ok (.bipush 15, 2) := by decide +kernel
theorem dX2_on_68 : decode cX2_on 68 = .ok (.iadd, 1) := by decide +kernel
theorem dX2_on_69 : decode cX2_on 69 = .ok (.aload_n 0, 1) := by decide +kernel
theorem dX2_on_70 : decode cX2_on 70 = .ok (.getfield 37, 3) := by decide +kernel
theorem dX2_on_73 : decode cX2_on 73 = .ok (.iconst 0, 1) := by decide +kernel
theorem dX2_on_74 : decode cX2_on 74 = .ok (.sipush 600, 3) := by decide +kernel
theorem dX2_on_77 : decode cX2_on 77 = .ok (.invokestatic 117, 3) := by decide +kernel
theorem dX2_on_80 : decode cX2_on 80 = .ok (.aload_n 0, 1) := by decide +kernel
theorem dX2_on_81 : decode cX2_on 81 = .ok (.getfield 121, 3) := by decide +kernel
theorem dX2_on_84 : decode cX2_on 84 = .ok (.ireturn, 1) := by decide +kernel
theorem dX2_asItIs_0 : decode cX2_asItIs 0 = .ok (.aload_n 0, 1) := by decide +kernel
theorem dX2_asItIs_1 : decode cX2_asItIs 1 = .ok (.getfield 31, 3) := by decide +kernel
theorem dX2_asItIs_4 : decode cX2_asItIs 4 = .ok (.iconst 0, 1) := by decide +kernel
theorem dX2_asItIs_5 : decode cX2_asItIs 5 = .ok (.aload_n 0, 1) := by decide +kernel
theorem dX2_asItIs_6 : decode cX2_asItIs 6 = .ok (.getfield 34, 3) := by decide +kernel
theorem dX2_asItIs_9 : decode cX2_asItIs 9 = .ok (.iconst 0, 1) := by decide +kernel
theorem dX2_asItIs_10 : decode cX2_asItIs 10 = .ok (.bipush 15, 2) := by decide +kernel
theorem dX2_asItIs_12 : decode cX2_asItIs 12 = .ok (.invokestatic 117, 3) := by decide +kernel
theorem dX2_asItIs_15 : decode cX2_asItIs 15 = .ok (.return_, 1) := by decide +kernel
theorem dX2_goes_0 : decode cX2_goes 0 = .ok (.iconst 0, 1) := by decide +kernel
theorem dX2_goes_1 : decode cX2_goes 1 = .ok (.istore_n 2, 1) := by decide +kernel
theorem dX2_goes_2 : decode cX2_goes 2 = .ok (.iload_n 2, 1) := by decide +kernel
theorem dX2_goes_3 : decode cX2_goes 3 = .ok (.iload_n 1, 1) := by decide +kernel
theorem dX2_goes_4 : decode cX2_goes 4 = .ok (.if_icmp .ge 17, 3) := by decide +kernel
theorem dX2_goes_7 : decode cX2_goes 7 = .ok (.aload_n 0, 1) := by decide +kernel
theorem dX2_goes_8 : decode cX2_goes 8 = .ok (.aload_n 0, 1) := by decide +kernel
theorem dX2_goes_9 : decode cX2_goes 9 = .ok (.getfield 34, 3) := by decide +kernel
theorem dX2_goes_12 : decode cX2_goes 12 = .ok (.invokevirtual 158, 3) := by decide +kernel
theorem dX2_goes_15 : decode cX2_goes 15 = .ok (.iinc 2 1, 3) := by decide +kernel
theorem dX2_goes_18 : decode cX2_goes 18 = .ok (.goto (-16), 3) := by decide +kernel
theorem dX2_goes_21 : decode cX2_goes 21 = .ok (.return_, 1) := by decide +kernel
theorem dX2_later_0 : decode cX2_later 0 = .ok (.aload_n 0, 1) := by decide +kernel
theorem dX2_later_1 : decode cX2_later 1 = .ok (.iload_n 1, 1) := by decide +kernel
theorem dX2_later_2 : decode cX2_later 2 = .ok (.invokevirtual 145, 3) := by decide +kernel
theorem dX2_later_5 : decode cX2_later 5 = .ok (.ifCond .eq 13, 3) := by decide +kernel
theorem dX2_later_8 : decode cX2_later 8 = .ok (.iload_n 2, 1) := by decide +kernel
theorem dX2_later_9 : decode cX2_later 9 = .ok (.iconst 0, 1) := by decide +kernel
theorem dX2_later_10 : decode cX2_later 10 = .ok (.bipush 60, 2) := by decide +kernel
theorem dX2_later_12 : decode cX2_later 12 = .ok (.invokestatic 82, 3) := by decide +kernel
theorem dX2_later_15 : decode cX2_later 15 = .ok (.ifCond .ne 5, 3) := by decide +kernel
theorem dX2_later_18 : decode cX2_later 18 = .ok (.iconst (-1), 1) := by decide +kernel
theorem dX2_later_19 : decode cX2_later 19 = .ok (.ireturn, 1) := by decide +kernel
theorem dX2_later_20 : decode cX2_later 20 = .ok (.aload_n 0, 1) := by decide +kernel
theorem dX2_later_21 : decode cX2_later 21 = .ok (.invokevirtual 173, 3) := by decide +kernel
theorem dX2_later_24 : decode cX2_later 24 = .ok (.aload_n 0, 1) := by decide +kernel
theorem dX2_later_25 : decode cX2_later 25 = .ok (.iload_n 2, 1) := by decide +kernel
theorem dX2_later_26 : decode cX2_later 26 = .ok (.invokevirtual 176, 3) := by decide +kernel
theorem dX2_later_29 : decode cX2_later 29 = .ok (.aload_n 0, 1) := by decide +kernel
theorem dX2_later_30 : decode cX2_later 30 = .ok (.aload_n 0, 1) := by decide +kernel
theorem dX2_later_31 : decode cX2_later 31 = .ok (.aload_n 0, 1) := by decide +kernel
theorem dX2_later_32 : decode cX2_later 32 = .ok (.getfield 34, 3) := by decide +kernel
theorem dX2_later_35 : decode cX2_later 35 = .ok (.invokevirtual 162, 3) := by decide +kernel
theorem dX2_later_38 : decode cX2_later 38 = .ok (.aload_n 0, 1) := by decide +kernel
theorem dX2_later_39 : decode cX2_later 39 = .ok (.getfield 34, 3) := by decide +kernel
theorem dX2_later_42 : decode cX2_later 42 = .ok (.iconst 1, 1) := by decide +kernel
theorem dX2_later_43 : decode cX2_later 43 = .ok (.iload_n 1, 1) := by decide +kernel
theorem dX2_later_44 : decode cX2_later 44 = .ok (.iadd, 1) := by decide +kernel
theorem dX2_later_45 : decode cX2_later 45 = .ok (.iaload, 1) := by decide +kernel
theorem dX2_later_46 : decode cX2_later 46 = .ok (.invokevirtual 102, 3) := by decide +kernel
theorem dX2_later_49 : decode cX2_later 49 = .ok (.ireturn, 1) := by decide +kernel
theorem dX2_hears_0 : decode cX2_hears 0 = .ok (.aload_n 0, 1) := by decide +kernel
theorem dX2_hears_1 : decode cX2_hears 1 = .ok (.iload_n 1, 1) := by decide +kernel
theorem dX2_hears_2 : decode cX2_hears 2 = .ok (.invokevirtual 145, 3) := by decide +kernel
theorem dX2_hears_5 : decode cX2_hears 5 = .ok (.ifCond .eq 20, 3) := by decide +kernel
theorem dX2_hears_8 : decode cX2_hears 8 = .ok (.iload_n 2, 1) := by decide +kernel
theorem dX2_hears_9 : decode cX2_hears 9 = .ok (.iconst 1, 1) := by decide +kernel
theorem dX2_hears_10 : decode cX2_hears 10 = .ok (.bipush 20, 2) := by decide +kernel
theorem dX2_hears_12 : decode cX2_hears 12 = .ok (.invokestatic 82, 3) := by decide +kernel
theorem dX2_hears_15 : decode cX2_hears 15 = .ok (.ifCond .eq 10, 3) := by decide +kernel
theorem dX2_hears_18 : decode cX2_hears 18 = .ok (.iload_n 3, 1) := by decide +kernel
theorem dX2_hears_19 : decode cX2_hears 19 = .ok (.invokestatic 86, 3) := by decide +kernel
theorem dX2_hears_22 : decode cX2_hears 22 = .ok (.ifCond .ne 5, 3) := by decide +kernel
theorem dX2_hears_25 : decode cX2_hears 25 = .ok (.iconst (-1), 1) := by decide +kernel
theorem dX2_hears_26 : decode cX2_hears 26 = .ok (.ireturn, 1) := by decide +kernel
theorem dX2_hears_27 : decode cX2_hears 27 = .ok (.iconst 0, 1) := by decide +kernel
theorem dX2_hears_28 : decode cX2_hears 28 = .ok (.istore 4, 2) := by decide +kernel
theorem dX2_hears_30 : decode cX2_hears 30 = .ok (.aload_n 0, 1) := by decide +kernel
theorem dX2_hears_31 : decode cX2_hears 31 = .ok (.invokevirtual 173, 3) := by decide +kernel
theorem dX2_hears_34 : decode cX2_hears 34 = .ok (.aload_n 0, 1) := by decide +kernel
theorem dX2_hears_35 : decode cX2_hears 35 = .ok (.iload_n 3, 1) := by decide +kernel
theorem dX2_hears_36 : decode cX2_hears 36 = .ok (.iload_n 2, 1) := by decide +kernel
theorem dX2_hears_37 : decode cX2_hears 37 = .ok (.invokevirtual 94, 3) := by decide +kernel
theorem dX2_hears_40 : decode cX2_hears 40 = .ok (.iconst 0, 1) := by decide +kernel
theorem dX2_hears_41 : decode cX2_hears 41 = .ok (.istore 5, 2) := by decide +kernel
theorem dX2_hears_43 : decode cX2_hears 43 = .ok (.iload 5, 2) := by decide +kernel
theorem dX2_hears_45 : decode cX2_hears 45 = .ok (.iload_n 2, 1) := by decide +kernel
theorem dX2_hears_46 : decode cX2_hears 46 = .ok (.if_icmp .ge 66, 3) := by decide +kernel
theorem dX2_hears_49 : decode cX2_hears 49 = .ok (.aload_n 0, 1) := by decide +kernel
theorem dX2_hears_50 : decode cX2_hears 50 = .ok (.aload_n 0, 1) := by decide +kernel
theorem dX2_hears_51 : decode cX2_hears 51 = .ok (.getfield 34, 3) := by decide +kernel
theorem dX2_hears_54 : decode cX2_hears 54 = .ok (.iload_n 1, 1) := by decide +kernel
theorem dX2_hears_55 : decode cX2_hears 55 = .ok (.invokevirtual 128, 3) := by decide +kernel
theorem dX2_hears_58 : decode cX2_hears 58 = .ok (.istore 6, 2) := by decide +kernel
theorem dX2_hears_60 : decode cX2_hears 60 = .ok (.aload_n 0, 1) := by decide +kernel
theorem dX2_hears_61 : decode cX2_hears 61 = .ok (.aload_n 0, 1) := by decide +kernel
theorem dX2_hears_62 : decode cX2_hears 62 = .ok (.getfield 34, 3) := by decide +kernel
theorem dX2_hears_65 : decode cX2_hears 65 = .ok (.iload_n 1, 1) := by decide +kernel
theorem dX2_hears_66 : decode cX2_hears 66 = .ok (.invokevirtual 135, 3) := by decide +kernel
theorem dX2_hears_69 : decode cX2_hears 69 = .ok (.istore 7, 2) := by decide +kernel
theorem dX2_hears_71 : decode cX2_hears 71 = .ok (.aload_n 0, 1) := by decide +kernel
theorem dX2_hears_72 : decode cX2_hears 72 = .ok (.getfield 13, 3) := by decide +kernel
theorem dX2_hears_75 : decode cX2_hears 75 = .ok (.bipush 40, 2) := by decide +kernel
theorem dX2_hears_77 : decode cX2_hears 77 = .ok (.iload_n 3, 1) := by decide +kernel
theorem dX2_hears_78 : decode cX2_hears 78 = .ok (.imul, 1) := by decide +kernel
theorem dX2_hears_79 : decode cX2_hears 79 = .ok (.iload 5, 2) := by decide +kernel
theorem dX2_hears_81 : decode cX2_hears 81 = .ok (.iadd, 1) := by decide +kernel
theorem dX2_hears_82 : decode cX2_hears 82 = .ok (.iload 6, 2) := by decide +kernel
theorem dX2_hears_84 : decode cX2_hears 84 = .ok (.ifCond .eq 8, 3) := by decide +kernel
theorem dX2_hears_87 : decode cX2_hears 87 = .ok (.iload 7, 2) := by decide +kernel
theorem dX2_hears_89 : decode cX2_hears 89 = .ok (.goto 4, 3) := by decide +kernel
theorem dX2_hears_92 : decode cX2_hears 92 = .ok (.iconst (-1), 1) := by decide +kernel
theorem dX2_hears_93 : decode cX2_hears 93 = .ok (.iastore, 1) := by decide +kernel
theorem dX2_hears_94 : decode cX2_hears 94 = .ok (.iload 4, 2) := by decide +kernel
theorem dX2_hears_96 : decode cX2_hears 96 = .ok (.iload 7, 2) := by decide +kernel
theorem dX2_hears_98 : decode cX2_hears 98 = .ok (.iadd, 1) := by decide +kernel
theorem dX2_hears_99 : decode cX2_hears 99 = .ok (.istore 4, 2) := by decide +kernel
theorem dX2_hears_101 : decode cX2_hears 101 = .ok (.aload_n 0, 1) := by decide +kernel
theorem dX2_hears_102 : decode cX2_hears 102 = .ok (.iconst 1, 1) := by decide +kernel
theorem dX2_hears_103 : decode cX2_hears 103 = .ok (.invokevirtual 176, 3) := by decide +kernel
theorem dX2_hears_106 : decode cX2_hears 106 = .ok (.iinc 5 1, 3) := by decide +kernel
theorem dX2_hears_109 : decode cX2_hears 109 = .ok (.goto (-66), 3) := by decide +kernel
theorem dX2_hears_112 : decode cX2_hears 112 = .ok (.iload 4, 2) := by decide +kernel
theorem dX2_hears_114 : decode cX2_hears 114 = .ok (.ireturn, 1) := by decide +kernel
theorem dX2_finds_0 : decode cX2_finds 0 = .ok (.aload_n 0, 1) := by decide +kernel
theorem dX2_finds_1 : decode cX2_finds 1 = .ok (.iload_n 1, 1) := by decide +kernel
theorem dX2_finds_2 : decode cX2_finds 2 = .ok (.invokevirtual 145, 3) := by decide +kernel
theorem dX2_finds_5 : decode cX2_finds 5 = .ok (.ifCond .eq 23, 3) := by decide +kernel
theorem dX2_finds_8 : decode cX2_finds 8 = .ok (.iload_n 3, 1) := by decide +kernel
theorem dX2_finds_9 : decode cX2_finds 9 = .ok (.iconst 1, 1) := by decide +kernel
theorem dX2_finds_10 : decode cX2_finds 10 = .ok (.bipush 8, 2) := by decide +kernel
theorem dX2_finds_12 : decode cX2_finds 12 = .ok (.invokestatic 82, 3) := by decide +kernel
theorem dX2_finds_15 : decode cX2_finds 15 = .ok (.ifCond .eq 13, 3) := by decide +kernel
theorem dX2_finds_18 : decode cX2_finds 18 = .ok (.iload_n 2, 1) := by decide +kernel
theorem dX2_finds_19 : decode cX2_finds 19 = .ok (.ifCond .lt 9, 3) := by decide +kernel
theorem dX2_finds_22 : decode cX2_finds 22 = .ok (.iload_n 2, 1) := by decide +kernel
theorem dX2_finds_23 : decode cX2_finds 23 = .ok (.iload_n 3, 1) := by decide +kernel
theorem dX2_finds_24 : decode cX2_finds 24 = .ok (.ishr, 1) := by decide +kernel
theorem dX2_finds_25 : decode cX2_finds 25 = .ok (.ifCond .eq 5, 3) := by decide +kernel
theorem dX2_finds_28 : decode cX2_finds 28 = .ok (.iconst (-1), 1) := by decide +kernel
theorem dX2_finds_29 : decode cX2_finds 29 = .ok (.ireturn, 1) := by decide +kernel
theorem dX2_finds_30 : decode cX2_finds 30 = .ok (.iconst 0, 1) := by decide +kernel
theorem dX2_finds_31 : decode cX2_finds 31 = .ok (.istore 4, 2) := by decide +kernel
theorem dX2_finds_33 : decode cX2_finds 33 = .ok (.iconst 0, 1) := by decide +kernel
theorem dX2_finds_34 : decode cX2_finds 34 = .ok (.istore 5, 2) := by decide +kernel
theorem dX2_finds_36 : decode cX2_finds 36 = .ok (.iconst 0, 1) := by decide +kernel
theorem dX2_finds_37 : decode cX2_finds 37 = .ok (.istore 6, 2) := by decide +kernel
theorem dX2_finds_39 : decode cX2_finds 39 = .ok (.aload_n 0, 1) := by decide +kernel
theorem dX2_finds_40 : decode cX2_finds 40 = .ok (.invokevirtual 173, 3) := by decide +kernel
theorem dX2_finds_43 : decode cX2_finds 43 = .ok (.iconst 1, 1) := by decide +kernel
theorem dX2_finds_44 : decode cX2_finds 44 = .ok (.istore 7, 2) := by decide +kernel
theorem dX2_finds_46 : decode cX2_finds 46 = .ok (.iload 7, 2) := by decide +kernel
theorem dX2_finds_48 : decode cX2_finds 48 = .ok (.bipush 60, 2) := by decide +kernel
theorem dX2_finds_50 : decode cX2_finds 50 = .ok (.if_icmp .gt 90, 3) := by decide +kernel
theorem dX2_finds_53 : decode cX2_finds 53 = .ok (.aload_n 0, 1) := by decide +kernel
theorem dX2_finds_54 : decode cX2_finds 54 = .ok (.aload_n 0, 1) := by decide +kernel
theorem dX2_finds_55 : decode cX2_finds 55 = .ok (.getfield 34, 3) := by decide +kernel
theorem dX2_finds_58 : decode cX2_finds 58 = .ok (.iload_n 1, 1) := by decide +kernel
theorem dX2_finds_59 : decode cX2_finds 59 = .ok (.invokevirtual 128, 3) := by decide +kernel
theorem dX2_finds_62 : decode cX2_finds 62 = .ok (.istore 8, 2) := by decide +kernel
theorem dX2_finds_64 : decode cX2_finds 64 = .ok (.aload_n 0, 1) := by decide +kernel
theorem dX2_finds_65 : decode cX2_finds 65 = .ok (.aload_n 0, 1) := by decide +kernel
theorem dX2_finds_66 : decode cX2_finds 66 = .ok (.getfield 34, 3) := by decide +kernel
theorem dX2_finds_69 : decode cX2_finds 69 = .ok (.iload_n 1, 1) := by decide +kernel
theorem dX2_finds_70 : decode cX2_finds 70 = .ok (.invokevirtual 135, 3) := by decide +kernel
theorem dX2_finds_73 : decode cX2_finds 73 = .ok (.istore 9, 2) := by decide +kernel
theorem dX2_finds_75 : decode cX2_finds 75 = .ok (.aload_n 0, 1) := by decide +kernel
theorem dX2_finds_76 : decode cX2_finds 76 = .ok (.iconst 1, 1) := by decide +kernel
theorem dX2_finds_77 : decode cX2_finds 77 = .ok (.invokevirtual 176, 3) := by decide +kernel
theorem dX2_finds_80 : decode cX2_finds 80 = .ok (.iload 8, 2) := by decide +kernel
theorem dX2_finds_82 : decode cX2_finds 82 = .ok (.ifCond .eq 26, 3) := by decide +kernel
theorem dX2_finds_85 : decode cX2_finds 85 = .ok (.iload 4, 2) := by decide +kernel
theorem dX2_finds_87 : decode cX2_finds 87 = .ok (.iconst 1, 1) := by decide +kernel
theorem dX2_finds_88 : decode cX2_finds 88 = .ok (.ishr, 1) := by decide +kernel
theorem dX2_finds_89 : decode cX2_finds 89 = .ok (.iload 9, 2) := by decide +kernel
theorem dX2_finds_91 : decode cX2_finds 91 = .ok (.iload_n 3, 1) := by decide +kernel
theorem dX2_finds_92 : decode cX2_finds 92 = .ok (.iconst 1, 1) := by decide +kernel
theorem dX2_finds_93 : decode cX2_finds 93 = .ok (.isub, 1) := by decide +kernel
theorem dX2_finds_94 : decode cX2_finds 94 = .ok (.ishl, 1) := by decide +kernel
theorem dX2_finds_95 : decode cX2_finds 95 = .ok (.ior, 1) := by decide +kernel
theorem dX2_finds_96 : decode cX2_finds 96 = .ok (.istore 4, 2) := by decide +kernel
theorem dX2_finds_98 : decode cX2_finds 98 = .ok (.iinc 5 1, 3) := by decide +kernel
theorem dX2_finds_101 : decode cX2_finds 101 = .ok (.iload 6, 2) := by decide +kernel
theorem dX2_finds_103 : decode cX2_finds 103 = .ok (.iload 9, 2) := by decide +kernel
theorem dX2_finds_105 : decode cX2_finds 105 = .ok (.iadd, 1) := by decide +kernel
theorem dX2_finds_106 : decode cX2_finds 106 = .ok (.istore 6, 2) := by decide +kernel
theorem dX2_finds_108 : decode cX2_finds 108 = .ok (.iload 8, 2) := by decide +kernel
theorem dX2_finds_110 : decode cX2_finds 110 = .ok (.ifCond .eq 24, 3) := by decide +kernel
theorem dX2_finds_113 : decode cX2_finds 113 = .ok (.iload 5, 2) := by decide +kernel
theorem dX2_finds_115 : decode cX2_finds 115 = .ok (.iload_n 3, 1) := by decide +kernel
theorem dX2_finds_116 : decode cX2_finds 116 = .ok (.if_icmp .lt 18, 3) := by decide +kernel
theorem dX2_finds_119 : decode cX2_finds 119 = .ok (.iload 4, 2) := by decide +kernel
theorem dX2_finds_121 : decode cX2_finds 121 = .ok (.iload_n 2, 1) := by decide +kernel
theorem dX2_finds_122 : decode cX2_finds 122 = .ok (.if_icmp .ne 12, 3) := by decide +kernel
theorem dX2_finds_125 : decode cX2_finds 125 = .ok (.aload_n 0, 1) := by decide +kernel
theorem dX2_finds_126 : decode cX2_finds 126 = .ok (.iload 6, 2) := by decide +kernel
theorem dX2_finds_128 : decode cX2_finds 128 = .ok (.iload 7, 2) := by decide +kernel
theorem dX2_finds_130 : decode cX2_finds 130 = .ok (.invokevirtual 102, 3) := by decide +kernel
theorem dX2_finds_133 : decode cX2_finds 133 = .ok (.ireturn, 1) := by decide +kernel
theorem dX2_finds_134 : decode cX2_finds 134 = .ok (.iinc 7 1, 3) := by decide +kernel
theorem dX2_finds_137 : decode cX2_finds 137 = .ok (.goto (-91), 3) := by decide +kernel
theorem dX2_finds_140 : decode cX2_finds 140 = .ok (.bipush (-9), 2) := by decide +kernel
theorem dX2_finds_142 : decode cX2_finds 142 = .ok (.ireturn, 1) := by decide +kernel
theorem dX2_round_0 : decode cX2_round 0 = .ok (.aload_n 0, 1) := by decide +kernel
theorem dX2_round_1 : decode cX2_round 1 = .ok (.getfield 79, 3) := by decide +kernel
theorem dX2_round_4 : decode cX2_round 4 = .ok (.ifCond .ne 6, 3) := by decide +kernel
theorem dX2_round_7 : decode cX2_round 7 = .ok (.bipush (-4), 2) := by decide +kernel
theorem dX2_round_9 : decode cX2_round 9 = .ok (.ireturn, 1) := by decide +kernel
theorem dX2_round_10 : decode cX2_round 10 = .ok (.aload_n 0, 1) := by decide +kernel
theorem dX2_round_11 : decode cX2_round 11 = .ok (.invokevirtual 173, 3) := by decide +kernel
theorem dX2_round_14 : decode cX2_round 14 = .ok (.aload_n 0, 1) := by decide +kernel
theorem dX2_round_15 : decode cX2_round 15 = .ok (.aload_n 0, 1) := by decide +kernel
theorem dX2_round_16 : decode cX2_round 16 = .ok (.getfield 34, 3) := by decide +kernel
theorem dX2_round_19 : decode cX2_round 19 = .ok (.invokevirtual 162, 3) := by decide +kernel
theorem dX2_round_22 : decode cX2_round 22 = .ok (.istore_n 1, 1) := by decide +kernel
theorem dX2_round_23 : decode cX2_round 23 = .ok (.iconst 1, 1) := by decide +kernel
theorem dX2_round_24 : decode cX2_round 24 = .ok (.istore_n 2, 1) := by decide +kernel
theorem dX2_round_25 : decode cX2_round 25 = .ok (.iload_n 2, 1) := by decide +kernel
theorem dX2_round_26 : decode cX2_round 26 = .ok (.bipush 120, 2) := by decide +kernel
theorem dX2_round_28 : decode cX2_round 28 = .ok (.if_icmp .gt 101, 3) := by decide +kernel
theorem dX2_round_31 : decode cX2_round 31 = .ok (.aload_n 0, 1) := by decide +kernel
theorem dX2_round_32 : decode cX2_round 32 = .ok (.iconst 1, 1) := by decide +kernel
theorem dX2_round_33 : decode cX2_round 33 = .ok (.invokevirtual 176, 3) := by decide +kernel
theorem dX2_round_36 : decode cX2_round 36 = .ok (.aload_n 0, 1) := by decide +kernel
theorem dX2_round_37 : decode cX2_round 37 = .ok (.aload_n 0, 1) := by decide +kernel
theorem dX2_round_38 : decode cX2_round 38 = .ok (.getfield 34, 3) := by decide +kernel
theorem dX2_round_41 : decode cX2_round 41 = .ok (.invokevirtual 162, 3) := by decide +kernel
theorem dX2_round_44 : decode cX2_round 44 = .ok (.iload_n 1, 1) := by decide +kernel
theorem dX2_round_45 : decode cX2_round 45 = .ok (.if_icmp .ge 14, 3) := by decide +kernel
theorem dX2_round_48 : decode cX2_round 48 = .ok (.aload_n 0, 1) := by decide +kernel
theorem dX2_round_49 : decode cX2_round 49 = .ok (.aload_n 0, 1) := by decide +kernel
theorem dX2_round_50 : decode cX2_round 50 = .ok (.getfield 34, 3) := by decide +kernel
theorem dX2_round_53 : decode cX2_round 53 = .ok (.invokevirtual 162, 3) := by decide +kernel
theorem dX2_round_56 : decode cX2_round 56 = .ok (.goto 4, 3) := by decide +kernel
theorem dX2_round_59 : decode cX2_round 59 = .ok (.iload_n 1, 1) := by decide +kernel
theorem dX2_round_60 : decode cX2_round 60 = .ok (.istore_n 1, 1) := by decide +kernel
theorem dX2_round_61 : decode cX2_round 61 = .ok (.iconst 1, 1) := by decide +kernel
theorem dX2_round_62 : decode cX2_round 62 = .ok (.istore_n 3, 1) := by decide +kernel
theorem dX2_round_63 : decode cX2_round 63 = .ok (.iconst 0, 1) := by decide +kernel
theorem dX2_round_64 : decode cX2_round 64 = .ok (.istore 4, 2) := by decide +kernel
theorem dX2_round_66 : decode cX2_round 66 = .ok (.iload 4, 2) := by decide +kernel
theorem dX2_round_68 : decode cX2_round 68 = .ok (.aload_n 0, 1) := by decide +kernel
theorem dX2_round_69 : decode cX2_round 69 = .ok (.getfield 79, 3) := by decide +kernel
theorem dX2_round_72 : decode cX2_round 72 = .ok (.if_icmp .ge 40, 3) := by decide +kernel
theorem dX2_round_75 : decode cX2_round 75 = .ok (.iload_n 3, 1) := by decide +kernel
theorem dX2_round_76 : decode cX2_round 76 = .ok (.ifCond .eq 28, 3) := by decide +kernel
theorem dX2_round_79 : decode cX2_round 79 = .ok (.aload_n 0, 1) := by decide +kernel
theorem dX2_round_80 : decode cX2_round 80 = .ok (.getfield 34, 3) := by decide +kernel
theorem dX2_round_83 : decode cX2_round 83 = .ok (.iconst 1, 1) := by decide +kernel
theorem dX2_round_84 : decode cX2_round 84 = .ok (.iload 4, 2) := by decide +kernel
theorem dX2_round_86 : decode cX2_round 86 = .ok (.iadd, 1) := by decide +kernel
theorem dX2_round_87 : decode cX2_round 87 = .ok (.iaload, 1) := by decide +kernel
theorem dX2_round_88 : decode cX2_round 88 = .ok (.aload_n 0, 1) := by decide +kernel
theorem dX2_round_89 : decode cX2_round 89 = .ok (.getfield 31, 3) := by decide +kernel
theorem dX2_round_92 : decode cX2_round 92 = .ok (.iconst 1, 1) := by decide +kernel
theorem dX2_round_93 : decode cX2_round 93 = .ok (.iload 4, 2) := by decide +kernel
theorem dX2_round_95 : decode cX2_round 95 = .ok (.iadd, 1) := by decide +kernel
theorem dX2_round_96 : decode cX2_round 96 = .ok (.iaload, 1) := by decide +kernel
theorem dX2_round_97 : decode cX2_round 97 = .ok (.if_icmp .ne 7, 3) := by decide +kernel
theorem dX2_round_100 : decode cX2_round 100 = .ok (.iconst 1, 1) := by decide +kernel
theorem dX2_round_101 : decode cX2_round 101 = .ok (.goto 4, 3) := by decide +kernel
theorem dX2_round_104 : decode cX2_round 104 = .ok (.iconst 0, 1) := by decide +kernel
theorem dX2_round_105 : decode cX2_round 105 = .ok (.istore_n 3, 1) := by decide +kernel
theorem dX2_round_106 : decode cX2_round 106 = .ok (.iinc 4 1, 3) := by decide +kernel
theorem dX2_round_109 : decode cX2_round 109 = .ok (.goto (-43), 3) := by decide +kernel
theorem dX2_round_112 : decode cX2_round 112 = .ok (.iload_n 3, 1) := by decide +kernel
theorem dX2_round_113 : decode cX2_round 113 = .ok (.ifCond .eq 10, 3) := by decide +kernel
theorem dX2_round_116 : decode cX2_round 116 = .ok (.aload_n 0, 1) := by decide +kernel
theorem dX2_round_117 : decode cX2_round 117 = .ok (.iload_n 1, 1) := by decide +kernel
theorem dX2_round_118 : decode cX2_round 118 = .ok (.iload_n 2, 1) := by decide +kernel
theorem dX2_round_119 : decode cX2_round 119 = .ok (.invokevirtual 102, 3) := by decide +kernel
theorem dX2_round_122 : decode cX2_round 122 = .ok (.ireturn, 1) := by decide +kernel
theorem dX2_round_123 : decode cX2_round 123 = .ok (.iinc 2 1, 3) := by decide +kernel
theorem dX2_round_126 : decode cX2_round 126 = .ok (.goto (-101), 3) := by decide +kernel
theorem dX2_round_129 : decode cX2_round 129 = .ok (.bipush (-9), 2) := by decide +kernel
theorem dX2_round_131 : decode cX2_round 131 = .ok (.ireturn, 1) := by decide +kernel
theorem dX2_left_0 : decode cX2_left 0 = .ok (.iload_n 1, 1) := by decide +kernel
theorem dX2_left_1 : decode cX2_left 1 = .ok (.iconst 0, 1) := by decide +kernel
theorem dX2_left_2 : decode cX2_left 2 = .ok (.bipush 60, 2) := by decide +kernel
theorem dX2_left_4 : decode cX2_left 4 = .ok (.invokestatic 82, 3) := by decide +kernel
theorem dX2_left_7 : decode cX2_left 7 = .ok (.ifCond .ne 5, 3) := by decide +kernel
theorem dX2_left_10 : decode cX2_left 10 = .ok (.iconst (-1), 1) := by decide +kernel
theorem dX2_left_11 : decode cX2_left 11 = .ok (.ireturn, 1) := by decide +kernel
theorem dX2_left_12 : decode cX2_left 12 = .ok (.aload_n 0, 1) := by decide +kernel
theorem dX2_left_13 : decode cX2_left 13 = .ok (.getfield 79, 3) := by decide +kernel
theorem dX2_left_16 : decode cX2_left 16 = .ok (.ifCond .ne 6, 3) := by decide +kernel
theorem dX2_left_19 : decode cX2_left 19 = .ok (.bipush (-4), 2) := by decide +kernel
theorem dX2_left_21 : decode cX2_left 21 = .ok (.ireturn, 1) := by decide +kernel
theorem dX2_left_22 : decode cX2_left 22 = .ok (.aload_n 0, 1) := by decide +kernel
theorem dX2_left_23 : decode cX2_left 23 = .ok (.invokevirtual 173, 3) := by decide +kernel
theorem dX2_left_26 : decode cX2_left 26 = .ok (.aload_n 0, 1) := by decide +kernel
theorem dX2_left_27 : decode cX2_left 27 = .ok (.iload_n 1, 1) := by decide +kernel
theorem dX2_left_28 : decode cX2_left 28 = .ok (.invokevirtual 176, 3) := by decide +kernel
theorem dX2_left_31 : decode cX2_left 31 = .ok (.iconst 0, 1) := by decide +kernel
theorem dX2_left_32 : decode cX2_left 32 = .ok (.istore_n 2, 1) := by decide +kernel
theorem dX2_left_33 : decode cX2_left 33 = .ok (.iconst 0, 1) := by decide +kernel
theorem dX2_left_34 : decode cX2_left 34 = .ok (.istore_n 3, 1) := by decide +kernel
theorem dX2_left_35 : decode cX2_left 35 = .ok (.iload_n 3, 1) := by decide +kernel
theorem dX2_left_36 : decode cX2_left 36 = .ok (.aload_n 0, 1) := by decide +kernel
theorem dX2_left_37 : decode cX2_left 37 = .ok (.getfield 79, 3) := by decide +kernel
theorem dX2_left_40 : decode cX2_left 40 = .ok (.if_icmp .ge 28, 3) := by decide +kernel
theorem dX2_left_43 : decode cX2_left 43 = .ok (.iload_n 2, 1) := by decide +kernel
theorem dX2_left_44 : decode cX2_left 44 = .ok (.aload_n 0, 1) := by decide +kernel
theorem dX2_left_45 : decode cX2_left 45 = .ok (.getfield 34, 3) := by decide +kernel
theorem dX2_left_48 : decode cX2_left 48 = .ok (.iconst 1, 1) := by decide +kernel
theorem dX2_left_49 : decode cX2_left 49 = .ok (.iload_n 3, 1) := by decide +kernel
theorem dX2_left_50 : decode cX2_left 50 = .ok (.iadd, 1) := by decide +kernel
theorem dX2_left_51 : decode cX2_left 51 = .ok (.iaload, 1) := by decide +kernel
theorem dX2_left_52 : decode cX2_left 52 = .ok (.ifCond .ne 7, 3) := by decide +kernel
theorem dX2_left_55 : decode cX2_left 55 = .ok (.iconst 1, 1) := by decide +kernel
theorem dX2_left_56 : decode cX2_left 56 = .ok (.goto 4, 3) := by decide +kernel
theorem dX2_left_59 : decode cX2_left 59 = .ok (.iconst 0, 1) := by decide +kernel
theorem dX2_left_60 : decode cX2_left 60 = .ok (.iadd, 1) := by decide +kernel
theorem dX2_left_61 : decode cX2_left 61 = .ok (.istore_n 2, 1) := by decide +kernel
theorem dX2_left_62 : decode cX2_left 62 = .ok (.iinc 3 1, 3) := by decide +kernel
theorem dX2_left_65 : decode cX2_left 65 = .ok (.goto (-30), 3) := by decide +kernel
theorem dX2_left_68 : decode cX2_left 68 = .ok (.aload_n 0, 1) := by decide +kernel
theorem dX2_left_69 : decode cX2_left 69 = .ok (.iload_n 2, 1) := by decide +kernel
theorem dX2_left_70 : decode cX2_left 70 = .ok (.aload_n 0, 1) := by decide +kernel
theorem dX2_left_71 : decode cX2_left 71 = .ok (.aload_n 0, 1) := by decide +kernel
theorem dX2_left_72 : decode cX2_left 72 = .ok (.getfield 34, 3) := by decide +kernel
theorem dX2_left_75 : decode cX2_left 75 = .ok (.invokevirtual 162, 3) := by decide +kernel
theorem dX2_left_78 : decode cX2_left 78 = .ok (.invokevirtual 102, 3) := by decide +kernel
theorem dX2_left_81 : decode cX2_left 81 = .ok (.ireturn, 1) := by decide +kernel
theorem dX2_best_0 : decode cX2_best 0 = .ok (.iload_n 1, 1) := by decide +kernel
theorem dX2_best_1 : decode cX2_best 1 = .ok (.iconst 1, 1) := by decide +kernel
theorem dX2_best_2 : decode cX2_best 2 = .ok (.bipush 40, 2) := by decide +kernel
theorem dX2_best_4 : decode cX2_best 4 = .ok (.invokestatic 82, 3) := by decide +kernel
theorem dX2_best_7 : decode cX2_best 7 = .ok (.ifCond .ne 5, 3) := by decide +kernel
theorem dX2_best_10 : decode cX2_best 10 = .ok (.iconst (-1), 1) := by decide +kernel
theorem dX2_best_11 : decode cX2_best 11 = .ok (.ireturn, 1) := by decide +kernel
theorem dX2_best_12 : decode cX2_best 12 = .ok (.aload_n 0, 1) := by decide +kernel
theorem dX2_best_13 : decode cX2_best 13 = .ok (.getfield 79, 3) := by decide +kernel
theorem dX2_best_16 : decode cX2_best 16 = .ok (.ifCond .ne 6, 3) := by decide +kernel
theorem dX2_best_19 : decode cX2_best 19 = .ok (.bipush (-4), 2) := by decide +kernel
theorem dX2_best_21 : decode cX2_best 21 = .ok (.ireturn, 1) := by decide +kernel
theorem dX2_best_22 : decode cX2_best 22 = .ok (.aload_n 0, 1) := by decide +kernel
theorem dX2_best_23 : decode cX2_best 23 = .ok (.invokevirtual 173, 3) := by decide +kernel
theorem dX2_best_26 : decode cX2_best 26 = .ok (.aload_n 0, 1) := by decide +kernel
theorem dX2_best_27 : decode cX2_best 27 = .ok (.iload_n 1, 1) := by decide +kernel
theorem dX2_best_28 : decode cX2_best 28 = .ok (.invokevirtual 176, 3) := by decide +kernel
theorem dX2_best_31 : decode cX2_best 31 = .ok (.aload_n 0, 1) := by decide +kernel
theorem dX2_best_32 : decode cX2_best 32 = .ok (.aload_n 0, 1) := by decide +kernel
theorem dX2_best_33 : decode cX2_best 33 = .ok (.getfield 34, 3) := by decide +kernel
theorem dX2_best_36 : decode cX2_best 36 = .ok (.invokevirtual 162, 3) := by decide +kernel
theorem dX2_best_39 : decode cX2_best 39 = .ok (.istore_n 2, 1) := by decide +kernel
theorem dX2_best_40 : decode cX2_best 40 = .ok (.bipush (-9), 2) := by decide +kernel
theorem dX2_best_42 : decode cX2_best 42 = .ok (.istore_n 3, 1) := by decide +kernel
theorem dX2_best_43 : decode cX2_best 43 = .ok (.iconst 0, 1) := by decide +kernel
theorem dX2_best_44 : decode cX2_best 44 = .ok (.istore 4, 2) := by decide +kernel
theorem dX2_best_46 : decode cX2_best 46 = .ok (.iload 4, 2) := by decide +kernel
theorem dX2_best_48 : decode cX2_best 48 = .ok (.aload_n 0, 1) := by decide +kernel
theorem dX2_best_49 : decode cX2_best 49 = .ok (.getfield 79, 3) := by decide +kernel
theorem dX2_best_52 : decode cX2_best 52 = .ok (.if_icmp .ge 92, 3) := by decide +kernel
theorem dX2_best_55 : decode cX2_best 55 = .ok (.iload 4, 2) := by decide +kernel
theorem dX2_best_57 : decode cX2_best 57 = .ok (.iconst 1, 1) := by decide +kernel
theorem dX2_best_58 : decode cX2_best 58 = .ok (.iadd, 1) := by decide +kernel
theorem dX2_best_59 : decode cX2_best 59 = .ok (.istore 5, 2) := by decide +kernel
theorem dX2_best_61 : decode cX2_best 61 = .ok (.iload 5, 2) := by decide +kernel
theorem dX2_best_63 : decode cX2_best 63 = .ok (.aload_n 0, 1) := by decide +kernel
theorem dX2_best_64 : decode cX2_best 64 = .ok (.getfield 79, 3) := by decide +kernel
theorem dX2_best_67 : decode cX2_best 67 = .ok (.if_icmp .ge 71, 3) := by decide +kernel
theorem dX2_best_70 : decode cX2_best 70 = .ok (.aload_n 0, 1) := by decide +kernel
theorem dX2_best_71 : decode cX2_best 71 = .ok (.invokevirtual 173, 3) := by decide +kernel
theorem dX2_best_74 : decode cX2_best 74 = .ok (.aload_n 0, 1) := by decide +kernel
theorem dX2_best_75 : decode cX2_best 75 = .ok (.getfield 34, 3) := by decide +kernel
theorem dX2_best_78 : decode cX2_best 78 = .ok (.iload 4, 2) := by decide +kernel
theorem dX2_best_80 : decode cX2_best 80 = .ok (.iload 5, 2) := by decide +kernel
theorem dX2_best_82 : decode cX2_best 82 = .ok (.invokestatic 166, 3) := by decide +kernel
theorem dX2_best_85 : decode cX2_best 85 = .ok (.aload_n 0, 1) := by decide +kernel
theorem dX2_best_86 : decode cX2_best 86 = .ok (.iload_n 1, 1) := by decide +kernel
theorem dX2_best_87 : decode cX2_best 87 = .ok (.invokevirtual 176, 3) := by decide +kernel
theorem dX2_best_90 : decode cX2_best 90 = .ok (.aload_n 0, 1) := by decide +kernel
theorem dX2_best_91 : decode cX2_best 91 = .ok (.aload_n 0, 1) := by decide +kernel
theorem dX2_best_92 : decode cX2_best 92 = .ok (.getfield 34, 3) := by decide +kernel
theorem dX2_best_95 : decode cX2_best 95 = .ok (.invokevirtual 162, 3) := by decide +kernel
theorem dX2_best_98 : decode cX2_best 98 = .ok (.istore 6, 2) := by decide +kernel
theorem dX2_best_100 : decode cX2_best 100 = .ok (.iload 6, 2) := by decide +kernel
theorem dX2_best_102 : decode cX2_best 102 = .ok (.iload_n 2, 1) := by decide +kernel
theorem dX2_best_103 : decode cX2_best 103 = .ok (.if_icmp .le 14, 3) := by decide +kernel
theorem dX2_best_106 : decode cX2_best 106 = .ok (.bipush 10, 2) := by decide +kernel
theorem dX2_best_108 : decode cX2_best 108 = .ok (.iload 4, 2) := by decide +kernel
theorem dX2_best_110 : decode cX2_best 110 = .ok (.imul, 1) := by decide +kernel
theorem dX2_best_111 : decode cX2_best 111 = .ok (.iload 5, 2) := by decide +kernel
theorem dX2_best_113 : decode cX2_best 113 = .ok (.iadd, 1) := by decide +kernel
theorem dX2_best_114 : decode cX2_best 114 = .ok (.goto 4, 3) := by decide +kernel
theorem dX2_best_117 : decode cX2_best 117 = .ok (.iload_n 3, 1) := by decide +kernel
theorem dX2_best_118 : decode cX2_best 118 = .ok (.istore_n 3, 1) := by decide +kernel
theorem dX2_best_119 : decode cX2_best 119 = .ok (.iload 6, 2) := by decide +kernel
theorem dX2_best_121 : decode cX2_best 121 = .ok (.iload_n 2, 1) := by decide +kernel
theorem dX2_best_122 : decode cX2_best 122 = .ok (.if_icmp .le 8, 3) := by decide +kernel
theorem dX2_best_125 : decode cX2_best 125 = .ok (.iload 6, 2) := by decide +kernel
theorem dX2_best_127 : decode cX2_best 127 = .ok (.goto 4, 3) := by decide +kernel
theorem dX2_best_130 : decode cX2_best 130 = .ok (.iload_n 2, 1) := by decide +kernel
theorem dX2_best_131 : decode cX2_best 131 = .ok (.istore_n 2, 1) := by decide +kernel
theorem dX2_best_132 : decode cX2_best 132 = .ok (.iinc 5 1, 3) := by decide +kernel
theorem dX2_best_135 : decode cX2_best 135 = .ok (.goto (-74), 3) := by decide +kernel
theorem dX2_best_138 : decode cX2_best 138 = .ok (.iinc 4 1, 3) := by decide +kernel
theorem dX2_best_141 : decode cX2_best 141 = .ok (.goto (-95), 3) := by decide +kernel
theorem dX2_best_144 : decode cX2_best 144 = .ok (.iload_n 3, 1) := by decide +kernel
theorem dX2_best_145 : decode cX2_best 145 = .ok (.bipush (-9), 2) := by decide +kernel
theorem dX2_best_147 : decode cX2_best 147 = .ok (.if_icmp .ne 8, 3) := by decide +kernel
theorem dX2_best_150 : decode cX2_best 150 = .ok (.bipush (-9), 2) := by decide +kernel
theorem dX2_best_152 : decode cX2_best 152 = .ok (.goto 9, 3) := by decide +kernel
theorem dX2_best_155 : decode cX2_best 155 = .ok (.aload_n 0, 1) := by decide +kernel
theorem dX2_best_156 : decode cX2_best 156 = .ok (.iload_n 2, 1) := by decide +kernel
theorem dX2_best_157 : decode cX2_best 157 = .ok (.iload_n 3, 1) := by decide +kernel
theorem dX2_best_158 : decode cX2_best 158 = .ok (.invokevirtual 102, 3) := by decide +kernel
theorem dX2_best_161 : decode cX2_best 161 = .ok (.ireturn, 1) := by decide +kernel
theorem dX2_againBy_0 : decode cX2_againBy 0 = .ok (.aload_n 0, 1) := by decide +kernel
theorem dX2_againBy_1 : decode cX2_againBy 1 = .ok (.invokevirtual 173, 3) := by decide +kernel
theorem dX2_againBy_4 : decode cX2_againBy 4 = .ok (.aload_n 0, 1) := by decide +kernel
theorem dX2_againBy_5 : decode cX2_againBy 5 = .ok (.getfield 34, 3) := by decide +kernel
theorem dX2_againBy_8 : decode cX2_againBy 8 = .ok (.iconst 1, 1) := by decide +kernel
theorem dX2_againBy_9 : decode cX2_againBy 9 = .ok (.iload_n 1, 1) := by decide +kernel
theorem dX2_againBy_10 : decode cX2_againBy 10 = .ok (.iadd, 1) := by decide +kernel
theorem dX2_againBy_11 : decode cX2_againBy 11 = .ok (.iload_n 2, 1) := by decide +kernel
theorem dX2_againBy_12 : decode cX2_againBy 12 = .ok (.iastore, 1) := by decide +kernel
theorem dX2_againBy_13 : decode cX2_againBy 13 = .ok (.iconst 1, 1) := by decide +kernel
theorem dX2_againBy_14 : decode cX2_againBy 14 = .ok (.istore_n 3, 1) := by decide +kernel
theorem dX2_againBy_15 : decode cX2_againBy 15 = .ok (.iload_n 3, 1) := by decide +kernel
theorem dX2_againBy_16 : decode cX2_againBy 16 = .ok (.bipush 60, 2) := by decide +kernel
theorem dX2_againBy_18 : decode cX2_againBy 18 = .ok (.if_icmp .gt 28, 3) := by decide +kernel
theorem dX2_againBy_21 : decode cX2_againBy 21 = .ok (.aload_n 0, 1) := by decide +kernel
theorem dX2_againBy_22 : decode cX2_againBy 22 = .ok (.iconst 1, 1) := by decide +kernel
theorem dX2_againBy_23 : decode cX2_againBy 23 = .ok (.invokevirtual 176, 3) := by decide +kernel
theorem dX2_againBy_26 : decode cX2_againBy 26 = .ok (.aload_n 0, 1) := by decide +kernel
theorem dX2_againBy_27 : decode cX2_againBy 27 = .ok (.getfield 34, 3) := by decide +kernel
theorem dX2_againBy_30 : decode cX2_againBy 30 = .ok (.iconst 1, 1) := by decide +kernel
theorem dX2_againBy_31 : decode cX2_againBy 31 = .ok (.iload_n 1, 1) := by decide +kernel
theorem dX2_againBy_32 : decode cX2_againBy 32 = .ok (.iadd, 1) := by decide +kernel
theorem dX2_againBy_33 : decode cX2_againBy 33 = .ok (.iaload, 1) := by decide +kernel
theorem dX2_againBy_34 : decode cX2_againBy 34 = .ok (.iload_n 2, 1) := by decide +kernel
theorem dX2_againBy_35 : decode cX2_againBy 35 = .ok (.if_icmp .ne 5, 3) := by decide +kernel
theorem dX2_againBy_38 : decode cX2_againBy 38 = .ok (.iload_n 3, 1) := by decide +kernel
theorem dX2_againBy_39 : decode cX2_againBy 39 = .ok (.ireturn, 1) := by decide +kernel
theorem dX2_againBy_40 : decode cX2_againBy 40 = .ok (.iinc 3 1, 3) := by decide +kernel
theorem dX2_againBy_43 : decode cX2_againBy 43 = .ok (.goto (-28), 3) := by decide +kernel
theorem dX2_againBy_46 : decode cX2_againBy 46 = .ok (.bipush 61, 2) := by decide +kernel
theorem dX2_againBy_48 : decode cX2_againBy 48 = .ok (.ireturn, 1) := by decide +kernel
theorem dX2_safest_0 : decode cX2_safest 0 = .ok (.iload_n 1, 1) := by decide +kernel
theorem dX2_safest_1 : decode cX2_safest 1 = .ok (.iconst 0, 1) := by decide +kernel
theorem dX2_safest_2 : decode cX2_safest 2 = .ok (.sipush 511, 3) := by decide +kernel
theorem dX2_safest_5 : decode cX2_safest 5 = .ok (.invokestatic 82, 3) := by decide +kernel
theorem dX2_safest_8 : decode cX2_safest 8 = .ok (.ifCond .ne 5, 3) := by decide +kernel
theorem dX2_safest_11 : decode cX2_safest 11 = .ok (.iconst (-1), 1) := by decide +kernel
theorem dX2_safest_12 : decode cX2_safest 12 = .ok (.ireturn, 1) := by decide +kernel
theorem dX2_safest_13 : decode cX2_safest 13 = .ok (.aload_n 0, 1) := by decide +kernel
theorem dX2_safest_14 : decode cX2_safest 14 = .ok (.getfield 79, 3) := by decide +kernel
theorem dX2_safest_17 : decode cX2_safest 17 = .ok (.ifCond .ne 6, 3) := by decide +kernel
theorem dX2_safest_20 : decode cX2_safest 20 = .ok (.bipush (-4), 2) := by decide +kernel
theorem dX2_safest_22 : decode cX2_safest 22 = .ok (.ireturn, 1) := by decide +kernel
theorem dX2_safest_23 : decode cX2_safest 23 = .ok (.bipush (-9), 2) := by decide +kernel
theorem dX2_safest_25 : decode cX2_safest 25 = .ok (.istore_n 2, 1) := by decide +kernel
theorem dX2_safest_26 : decode cX2_safest 26 = .ok (.bipush 61, 2) := by decide +kernel
theorem dX2_safest_28 : decode cX2_safest 28 = .ok (.istore_n 3, 1) := by decide +kernel
theorem dX2_safest_29 : decode cX2_safest 29 = .ok (.iconst 0, 1) := by decide +kernel
theorem dX2_safest_30 : decode cX2_safest 30 = .ok (.istore 4, 2) := by decide +kernel
theorem dX2_safest_32 : decode cX2_safest 32 = .ok (.iload 4, 2) := by decide +kernel
theorem dX2_safest_34 : decode cX2_safest 34 = .ok (.aload_n 0, 1) := by decide +kernel
theorem dX2_safest_35 : decode cX2_safest 35 = .ok (.getfield 79, 3) := by decide +kernel
theorem dX2_safest_38 : decode cX2_safest 38 = .ok (.if_icmp .ge 59, 3) := by decide +kernel
theorem dX2_safest_41 : decode cX2_safest 41 = .ok (.aload_n 0, 1) := by decide +kernel
theorem dX2_safest_42 : decode cX2_safest 42 = .ok (.iload 4, 2) := by decide +kernel
theorem dX2_safest_44 : decode cX2_safest 44 = .ok (.iload_n 1, 1) := by decide +kernel
theorem dX2_safest_45 : decode cX2_safest 45 = .ok (.invokevirtual 170, 3) := by decide +kernel
theorem dX2_safest_48 : decode cX2_safest 48 = .ok (.ifCond .eq 13, 3) := by decide +kernel
theorem dX2_safest_51 : decode cX2_safest 51 = .ok (.aload_n 0, 1) := by decide +kernel
theorem dX2_safest_52 : decode cX2_safest 52 = .ok (.iload 4, 2) := by decide +kernel
theorem dX2_safest_54 : decode cX2_safest 54 = .ok (.iload_n 1, 1) := by decide +kernel
theorem dX2_safest_55 : decode cX2_safest 55 = .ok (.invokevirtual 180, 3) := by decide +kernel
theorem dX2_safest_58 : decode cX2_safest 58 = .ok (.goto 5, 3) := by decide +kernel
theorem dX2_safest_61 : decode cX2_safest 61 = .ok (.bipush 61, 2) := by decide +kernel
theorem dX2_safest_63 : decode cX2_safest 63 = .ok (.istore 5, 2) := by decide +kernel
theorem dX2_safest_65 : decode cX2_safest 65 = .ok (.iload 5, 2) := by decide +kernel
theorem dX2_safest_67 : decode cX2_safest 67 = .ok (.iload_n 3, 1) := by decide +kernel
theorem dX2_safest_68 : decode cX2_safest 68 = .ok (.if_icmp .ge 8, 3) := by decide +kernel
theorem dX2_safest_71 : decode cX2_safest 71 = .ok (.iload 4, 2) := by decide +kernel
theorem dX2_safest_73 : decode cX2_safest 73 = .ok (.goto 4, 3) := by decide +kernel
theorem dX2_safest_76 : decode cX2_safest 76 = .ok (.iload_n 2, 1) := by decide +kernel
theorem dX2_safest_77 : decode cX2_safest 77 = .ok (.istore_n 2, 1) := by decide +kernel
theorem dX2_safest_78 : decode cX2_safest 78 = .ok (.iload 5, 2) := by decide +kernel
theorem dX2_safest_80 : decode cX2_safest 80 = .ok (.iload_n 3, 1) := by decide +kernel
theorem dX2_safest_81 : decode cX2_safest 81 = .ok (.if_icmp .ge 8, 3) := by decide +kernel
theorem dX2_safest_84 : decode cX2_safest 84 = .ok (.iload 5, 2) := by decide +kernel
theorem dX2_safest_86 : decode cX2_safest 86 = .ok (.goto 4, 3) := by decide +kernel
theorem dX2_safest_89 : decode cX2_safest 89 = .ok (.iload_n 3, 1) := by decide +kernel
theorem dX2_safest_90 : decode cX2_safest 90 = .ok (.istore_n 3, 1) := by decide +kernel
theorem dX2_safest_91 : decode cX2_safest 91 = .ok (.iinc 4 1, 3) := by decide +kernel
theorem dX2_safest_94 : decode cX2_safest 94 = .ok (.goto (-62), 3) := by decide +kernel
theorem dX2_safest_97 : decode cX2_safest 97 = .ok (.iload_n 2, 1) := by decide +kernel
theorem dX2_safest_98 : decode cX2_safest 98 = .ok (.bipush (-9), 2) := by decide +kernel
theorem dX2_safest_100 : decode cX2_safest 100 = .ok (.if_icmp .ne 8, 3) := by decide +kernel
theorem dX2_safest_103 : decode cX2_safest 103 = .ok (.bipush (-9), 2) := by decide +kernel
theorem dX2_safest_105 : decode cX2_safest 105 = .ok (.goto 9, 3) := by decide +kernel
theorem dX2_safest_108 : decode cX2_safest 108 = .ok (.aload_n 0, 1) := by decide +kernel
theorem dX2_safest_109 : decode cX2_safest 109 = .ok (.iload_n 3, 1) := by decide +kernel
theorem dX2_safest_110 : decode cX2_safest 110 = .ok (.iload_n 2, 1) := by decide +kernel
theorem dX2_safest_111 : decode cX2_safest 111 = .ok (.invokevirtual 102, 3) := by decide +kernel
theorem dX2_safest_114 : decode cX2_safest 114 = .ok (.ireturn, 1) := by decide +kernel
theorem dX2_heardOf_0 : decode cX2_heardOf 0 = .ok (.aload_n 0, 1) := by decide +kernel
theorem dX2_heardOf_1 : decode cX2_heardOf 1 = .ok (.getfield 7, 3) := by decide +kernel
theorem dX2_heardOf_4 : decode cX2_heardOf 4 = .ok (.iload_n 1, 1) := by decide +kernel
theorem dX2_heardOf_5 : decode cX2_heardOf 5 = .ok (.iaload, 1) := by decide +kernel
theorem dX2_heardOf_6 : decode cX2_heardOf 6 = .ok (.ifCond .ge 5, 3) := by decide +kernel
theorem dX2_heardOf_9 : decode cX2_heardOf 9 = .ok (.iconst 1, 1) := by decide +kernel
theorem dX2_heardOf_10 : decode cX2_heardOf 10 = .ok (.ireturn, 1) := by decide +kernel
theorem dX2_heardOf_11 : decode cX2_heardOf 11 = .ok (.aload_n 0, 1) := by decide +kernel
theorem dX2_heardOf_12 : decode cX2_heardOf 12 = .ok (.getfield 7, 3) := by decide +kernel
theorem dX2_heardOf_15 : decode cX2_heardOf 15 = .ok (.iload_n 1, 1) := by decide +kernel
theorem dX2_heardOf_16 : decode cX2_heardOf 16 = .ok (.iaload, 1) := by decide +kernel
theorem dX2_heardOf_17 : decode cX2_heardOf 17 = .ok (.iconst 1, 1) := by decide +kernel
theorem dX2_heardOf_18 : decode cX2_heardOf 18 = .ok (.bipush 20, 2) := by decide +kernel
theorem dX2_heardOf_20 : decode cX2_heardOf 20 = .ok (.invokestatic 82, 3) := by decide +kernel
theorem dX2_heardOf_23 : decode cX2_heardOf 23 = .ok (.ifCond .ne 5, 3) := by decide +kernel
theorem dX2_heardOf_26 : decode cX2_heardOf 26 = .ok (.iconst 5, 1) := by decide +kernel
theorem dX2_heardOf_27 : decode cX2_heardOf 27 = .ok (.ireturn, 1) := by decide +kernel
theorem dX2_heardOf_28 : decode cX2_heardOf 28 = .ok (.iconst 1, 1) := by decide +kernel
theorem dX2_heardOf_29 : decode cX2_heardOf 29 = .ok (.istore_n 2, 1) := by decide +kernel
theorem dX2_heardOf_30 : decode cX2_heardOf 30 = .ok (.iconst 0, 1) := by decide +kernel
theorem dX2_heardOf_31 : decode cX2_heardOf 31 = .ok (.istore_n 3, 1) := by decide +kernel
theorem dX2_heardOf_32 : decode cX2_heardOf 32 = .ok (.iload_n 3, 1) := by decide +kernel
theorem dX2_heardOf_33 : decode cX2_heardOf 33 = .ok (.aload_n 0, 1) := by decide +kernel
theorem dX2_heardOf_34 : decode cX2_heardOf 34 = .ok (.getfield 7, 3) := by decide +kernel
theorem dX2_heardOf_37 : decode cX2_heardOf 37 = .ok (.iload_n 1, 1) := by decide +kernel
theorem dX2_heardOf_38 : decode cX2_heardOf 38 = .ok (.iaload, 1) := by decide +kernel
theorem dX2_heardOf_39 : decode cX2_heardOf 39 = .ok (.if_icmp .ge 38, 3) := by decide +kernel
theorem dX2_heardOf_42 : decode cX2_heardOf 42 = .ok (.iload_n 2, 1) := by decide +kernel
theorem dX2_heardOf_43 : decode cX2_heardOf 43 = .ok (.ifCond .eq 26, 3) := by decide +kernel
theorem dX2_heardOf_46 : decode cX2_heardOf 46 = .ok (.aload_n 0, 1) := by decide +kernel
theorem dX2_heardOf_47 : decode cX2_heardOf 47 = .ok (.getfield 13, 3) := by decide +kernel
theorem dX2_heardOf_50 : decode cX2_heardOf 50 = .ok (.bipush 40, 2) := by decide +kernel
theorem dX2_heardOf_52 : decode cX2_heardOf 52 = .ok (.iload_n 1, 1) := by decide +kernel
theorem dX2_heardOf_53 : decode cX2_heardOf 53 = .ok (.imul, 1) := by decide +kernel
theorem dX2_heardOf_54 : decode cX2_heardOf 54 = .ok (.iload_n 3, 1) := by decide +kernel
theorem dX2_heardOf_55 : decode cX2_heardOf 55 = .ok (.iadd, 1) := by decide +kernel
theorem dX2_heardOf_56 : decode cX2_heardOf 56 = .ok (.iaload, 1) := by decide +kernel
theorem dX2_heardOf_57 : decode cX2_heardOf 57 = .ok (.iconst 0, 1) := by decide +kernel
theorem dX2_heardOf_58 : decode cX2_heardOf 58 = .ok (.iconst 1, 1) := by decide +kernel
theorem dX2_heardOf_59 : decode cX2_heardOf 59 = .ok (.invokestatic 82, 3) := by decide +kernel
theorem dX2_heardOf_62 : decode cX2_heardOf 62 = .ok (.ifCond .eq 7, 3) := by decide +kernel
theorem dX2_heardOf_65 : decode cX2_heardOf 65 = .ok (.iconst 1, 1) := by decide +kernel
theorem dX2_heardOf_66 : decode cX2_heardOf 66 = .ok (.goto 4, 3) := by decide +kernel
theorem dX2_heardOf_69 : decode cX2_heardOf 69 = .ok (.iconst 0, 1) := by decide +kernel
theorem dX2_heardOf_70 : decode cX2_heardOf 70 = .ok (.istore_n 2, 1) := by decide +kernel
theorem dX2_heardOf_71 : decode cX2_heardOf 71 = .ok (.iinc 3 1, 3) := by decide +kernel
theorem dX2_heardOf_74 : decode cX2_heardOf 74 = .ok (.goto (-42), 3) := by decide +kernel
theorem dX2_heardOf_77 : decode cX2_heardOf 77 = .ok (.iload_n 2, 1) := by decide +kernel
theorem dX2_heardOf_78 : decode cX2_heardOf 78 = .ok (.ifCond .eq 7, 3) := by decide +kernel
theorem dX2_heardOf_81 : decode cX2_heardOf 81 = .ok (.iconst 0, 1) := by decide +kernel
theorem dX2_heardOf_82 : decode cX2_heardOf 82 = .ok (.goto 4, 3) := by decide +kernel
theorem dX2_heardOf_85 : decode cX2_heardOf 85 = .ok (.iconst 3, 1) := by decide +kernel
theorem dX2_heardOf_86 : decode cX2_heardOf 86 = .ok (.ireturn, 1) := by decide +kernel
theorem dX2_isHeard_0 : decode cX2_isHeard 0 = .ok (.iconst 0, 1) := by decide +kernel
theorem dX2_isHeard_1 : decode cX2_isHeard 1 = .ok (.istore_n 3, 1) := by decide +kernel
theorem dX2_isHeard_2 : decode cX2_isHeard 2 = .ok (.iconst 1, 1) := by decide +kernel
theorem dX2_isHeard_3 : decode cX2_isHeard 3 = .ok (.istore 4, 2) := by decide +kernel
theorem dX2_isHeard_5 : decode cX2_isHeard 5 = .ok (.iconst 0, 1) := by decide +kernel
theorem dX2_isHeard_6 : decode cX2_isHeard 6 = .ok (.istore 5, 2) := by decide +kernel
theorem dX2_isHeard_8 : decode cX2_isHeard 8 = .ok (.iload 5, 2) := by decide +kernel
theorem dX2_isHeard_10 : decode cX2_isHeard 10 = .ok (.bipush 60, 2) := by decide +kernel
theorem dX2_isHeard_12 : decode cX2_isHeard 12 = .ok (.if_icmp .ge 75, 3) := by decide +kernel
theorem dX2_isHeard_15 : decode cX2_isHeard 15 = .ok (.iload 4, 2) := by decide +kernel
theorem dX2_isHeard_17 : decode cX2_isHeard 17 = .ok (.ifCond .eq 70, 3) := by decide +kernel
theorem dX2_isHeard_20 : decode cX2_isHeard 20 = .ok (.iload_n 3, 1) := by decide +kernel
theorem dX2_isHeard_21 : decode cX2_isHeard 21 = .ok (.aload_n 0, 1) := by decide +kernel
theorem dX2_isHeard_22 : decode cX2_isHeard 22 = .ok (.getfield 7, 3) := by decide +kernel
theorem dX2_isHeard_25 : decode cX2_isHeard 25 = .ok (.iload_n 2, 1) := by decide +kernel
theorem dX2_isHeard_26 : decode cX2_isHeard 26 = .ok (.iaload, 1) := by decide +kernel
theorem dX2_isHeard_27 : decode cX2_isHeard 27 = .ok (.if_icmp .ge 60, 3) := by decide +kernel
theorem dX2_isHeard_30 : decode cX2_isHeard 30 = .ok (.aload_n 0, 1) := by decide +kernel
theorem dX2_isHeard_31 : decode cX2_isHeard 31 = .ok (.aload_n 0, 1) := by decide +kernel
theorem dX2_isHeard_32 : decode cX2_isHeard 32 = .ok (.getfield 34, 3) := by decide +kernel
theorem dX2_isHeard_35 : decode cX2_isHeard 35 = .ok (.iload_n 1, 1) := by decide +kernel
theorem dX2_isHeard_36 : decode cX2_isHeard 36 = .ok (.invokevirtual 128, 3) := by decide +kernel
theorem dX2_isHeard_39 : decode cX2_isHeard 39 = .ok (.ifCond .eq 37, 3) := by decide +kernel
theorem dX2_isHeard_42 : decode cX2_isHeard 42 = .ok (.aload_n 0, 1) := by decide +kernel
theorem dX2_isHeard_43 : decode cX2_isHeard 43 = .ok (.getfield 34, 3) := by decide +kernel
theorem dX2_isHeard_46 : decode cX2_isHeard 46 = .ok (.iconst 1, 1) := by decide +kernel
theorem dX2_isHeard_47 : decode cX2_isHeard 47 = .ok (.iload_n 1, 1) := by decide +kernel
theorem dX2_isHeard_48 : decode cX2_isHeard 48 = .ok (.iadd, 1) := by decide +kernel
theorem dX2_isHeard_49 : decode cX2_isHeard 49 = .ok (.iaload, 1) := by decide +kernel
theorem dX2_isHeard_50 : decode cX2_isHeard 50 = .ok (.iconst 1, 1) := by decide +kernel
theorem dX2_isHeard_51 : decode cX2_isHeard 51 = .ok (.iand, 1) := by decide +kernel
theorem dX2_isHeard_52 : decode cX2_isHeard 52 = .ok (.aload_n 0, 1) := by decide +kernel
theorem dX2_isHeard_53 : decode cX2_isHeard 53 = .ok (.getfield 13, 3) := by decide +kernel
theorem dX2_isHeard_56 : decode cX2_isHeard 56 = .ok (.bipush 40, 2) := by decide +kernel
theorem dX2_isHeard_58 : decode cX2_isHeard 58 = .ok (.iload_n 2, 1) := by decide +kernel
theorem dX2_isHeard_59 : decode cX2_isHeard 59 = .ok (.imul, 1) := by decide +kernel
theorem dX2_isHeard_60 : decode cX2_isHeard 60 = .ok (.iload_n 3, 1) := by decide +kernel
theorem dX2_isHeard_61 : decode cX2_isHeard 61 = .ok (.iadd, 1) := by decide +kernel
theorem dX2_isHeard_62 : decode cX2_isHeard 62 = .ok (.iaload, 1) := by decide +kernel
theorem dX2_isHeard_63 : decode cX2_isHeard 63 = .ok (.if_icmp .ne 7, 3) := by decide +kernel
theorem dX2_isHeard_66 : decode cX2_isHeard 66 = .ok (.iconst 1, 1) := by decide +kernel
theorem dX2_isHeard_67 : decode cX2_isHeard 67 = .ok (.goto 4, 3) := by decide +kernel
theorem dX2_isHeard_70 : decode cX2_isHeard 70 = .ok (.iconst 0, 1) := by decide +kernel
theorem dX2_isHeard_71 : decode cX2_isHeard 71 = .ok (.istore 4, 2) := by decide +kernel
theorem dX2_isHeard_73 : decode cX2_isHeard 73 = .ok (.iinc 3 1, 3) := by decide +kernel
theorem dX2_isHeard_76 : decode cX2_isHeard 76 = .ok (.aload_n 0, 1) := by decide +kernel
theorem dX2_isHeard_77 : decode cX2_isHeard 77 = .ok (.iconst 1, 1) := by decide +kernel
theorem dX2_isHeard_78 : decode cX2_isHeard 78 = .ok (.invokevirtual 176, 3) := by decide +kernel
theorem dX2_isHeard_81 : decode cX2_isHeard 81 = .ok (.iinc 5 1, 3) := by decide +kernel
theorem dX2_isHeard_84 : decode cX2_isHeard 84 = .ok (.goto (-76), 3) := by decide +kernel
theorem dX2_isHeard_87 : decode cX2_isHeard 87 = .ok (.iload 4, 2) := by decide +kernel
theorem dX2_isHeard_89 : decode cX2_isHeard 89 = .ok (.ifCond .eq 17, 3) := by decide +kernel
theorem dX2_isHeard_92 : decode cX2_isHeard 92 = .ok (.iload_n 3, 1) := by decide +kernel
theorem dX2_isHeard_93 : decode cX2_isHeard 93 = .ok (.aload_n 0, 1) := by decide +kernel
theorem dX2_isHeard_94 : decode cX2_isHeard 94 = .ok (.getfield 7, 3) := by decide +kernel
theorem dX2_isHeard_97 : decode cX2_isHeard 97 = .ok (.iload_n 2, 1) := by decide +kernel
theorem dX2_isHeard_98 : decode cX2_isHeard 98 = .ok (.iaload, 1) := by decide +kernel
theorem dX2_isHeard_99 : decode cX2_isHeard 99 = .ok (.if_icmp .ne 7, 3) := by decide +kernel
theorem dX2_isHeard_102 : decode cX2_isHeard 102 = .ok (.iconst 1, 1) := by decide +kernel
theorem dX2_isHeard_103 : decode cX2_isHeard 103 = .ok (.goto 4, 3) := by decide +kernel
theorem dX2_isHeard_106 : decode cX2_isHeard 106 = .ok (.iconst 0, 1) := by decide +kernel
theorem dX2_isHeard_107 : decode cX2_isHeard 107 = .ok (.ireturn, 1) := by decide +kernel
theorem dX2_kindsOf_0 : decode cX2_kindsOf 0 = .ok (.aload_n 0, 1) := by decide +kernel
theorem dX2_kindsOf_1 : decode cX2_kindsOf 1 = .ok (.getfield 22, 3) := by decide +kernel
theorem dX2_kindsOf_4 : decode cX2_kindsOf 4 = .ok (.iload_n 1, 1) := by decide +kernel
theorem dX2_kindsOf_5 : decode cX2_kindsOf 5 = .ok (.iaload, 1) := by decide +kernel
theorem dX2_kindsOf_6 : decode cX2_kindsOf 6 = .ok (.istore_n 3, 1) := by decide +kernel
theorem dX2_kindsOf_7 : decode cX2_kindsOf 7 = .ok (.iconst 0, 1) := by decide +kernel
theorem dX2_kindsOf_8 : decode cX2_kindsOf 8 = .ok (.istore 4, 2) := by decide +kernel
theorem dX2_kindsOf_10 : decode cX2_kindsOf 10 = .ok (.iconst 0, 1) := by decide +kernel
theorem dX2_kindsOf_11 : decode cX2_kindsOf 11 = .ok (.istore 5, 2) := by decide +kernel
theorem dX2_kindsOf_13 : decode cX2_kindsOf 13 = .ok (.iload 5, 2) := by decide +kernel
theorem dX2_kindsOf_15 : decode cX2_kindsOf 15 = .ok (.bipush 6, 2) := by decide +kernel
theorem dX2_kindsOf_17 : decode cX2_kindsOf 17 = .ok (.if_icmp .ge 43, 3) := by decide +kernel
theorem dX2_kindsOf_20 : decode cX2_kindsOf 20 = .ok (.aload_n 0, 1) := by decide +kernel
theorem dX2_kindsOf_21 : decode cX2_kindsOf 21 = .ok (.getfield 22, 3) := by decide +kernel
theorem dX2_kindsOf_24 : decode cX2_kindsOf 24 = .ok (.iload_n 1, 1) := by decide +kernel
theorem dX2_kindsOf_25 : decode cX2_kindsOf 25 = .ok (.iload 5, 2) := by decide +kernel
theorem dX2_kindsOf_27 : decode cX2_kindsOf 27 = .ok (.iastore, 1) := by decide +kernel
theorem dX2_kindsOf_28 : decode cX2_kindsOf 28 = .ok (.aload_n 0, 1) := by decide +kernel
theorem dX2_kindsOf_29 : decode cX2_kindsOf 29 = .ok (.invokevirtual 173, 3) := by decide +kernel
theorem dX2_kindsOf_32 : decode cX2_kindsOf 32 = .ok (.iload 4, 2) := by decide +kernel
theorem dX2_kindsOf_34 : decode cX2_kindsOf 34 = .ok (.aload_n 0, 1) := by decide +kernel
theorem dX2_kindsOf_35 : decode cX2_kindsOf 35 = .ok (.iload_n 1, 1) := by decide +kernel
theorem dX2_kindsOf_36 : decode cX2_kindsOf 36 = .ok (.iload_n 2, 1) := by decide +kernel
theorem dX2_kindsOf_37 : decode cX2_kindsOf 37 = .ok (.invokevirtual 183, 3) := by decide +kernel
theorem dX2_kindsOf_40 : decode cX2_kindsOf 40 = .ok (.ifCond .eq 10, 3) := by decide +kernel
theorem dX2_kindsOf_43 : decode cX2_kindsOf 43 = .ok (.iconst 1, 1) := by decide +kernel
theorem dX2_kindsOf_44 : decode cX2_kindsOf 44 = .ok (.iload 5, 2) := by decide +kernel
theorem dX2_kindsOf_46 : decode cX2_kindsOf 46 = .ok (.ishl, 1) := by decide +kernel
theorem dX2_kindsOf_47 : decode cX2_kindsOf 47 = .ok (.goto 4, 3) := by decide +kernel
theorem dX2_kindsOf_50 : decode cX2_kindsOf 50 = .ok (.iconst 0, 1) := by decide +kernel
theorem dX2_kindsOf_51 : decode cX2_kindsOf 51 = .ok (.ior, 1) := by decide +kernel
theorem dX2_kindsOf_52 : decode cX2_kindsOf 52 = .ok (.istore 4, 2) := by decide +kernel
theorem dX2_kindsOf_54 : decode cX2_kindsOf 54 = .ok (.iinc 5 1, 3) := by decide +kernel
theorem dX2_kindsOf_57 : decode cX2_kindsOf 57 = .ok (.goto (-44), 3) := by decide +kernel
theorem dX2_kindsOf_60 : decode cX2_kindsOf 60 = .ok (.aload_n 0, 1) := by decide +kernel
theorem dX2_kindsOf_61 : decode cX2_kindsOf 61 = .ok (.getfield 22, 3) := by decide +kernel
theorem dX2_kindsOf_64 : decode cX2_kindsOf 64 = .ok (.iload_n 1, 1) := by decide +kernel
theorem dX2_kindsOf_65 : decode cX2_kindsOf 65 = .ok (.iload_n 3, 1) := by decide +kernel
theorem dX2_kindsOf_66 : decode cX2_kindsOf 66 = .ok (.iastore, 1) := by decide +kernel
theorem dX2_kindsOf_67 : decode cX2_kindsOf 67 = .ok (.iload 4, 2) := by decide +kernel
theorem dX2_kindsOf_69 : decode cX2_kindsOf 69 = .ok (.ireturn, 1) := by decide +kernel
theorem dX2_kinds_0 : decode cX2_kinds 0 = .ok (.aload_n 0, 1) := by decide +kernel
theorem dX2_kinds_1 : decode cX2_kinds 1 = .ok (.iload_n 1, 1) := by decide +kernel
theorem dX2_kinds_2 : decode cX2_kinds 2 = .ok (.invokevirtual 145, 3) := by decide +kernel
theorem dX2_kinds_5 : decode cX2_kinds 5 = .ok (.ifCond .eq 10, 3) := by decide +kernel
theorem dX2_kinds_8 : decode cX2_kinds 8 = .ok (.iload_n 2, 1) := by decide +kernel
theorem dX2_kinds_9 : decode cX2_kinds 9 = .ok (.invokestatic 86, 3) := by decide +kernel
theorem dX2_kinds_12 : decode cX2_kinds 12 = .ok (.ifCond .ne 5, 3) := by decide +kernel
theorem dX2_kinds_15 : decode cX2_kinds 15 = .ok (.iconst (-1), 1) := by decide +kernel
theorem dX2_kinds_16 : decode cX2_kinds 16 = .ok (.ireturn, 1) := by decide +kernel
theorem dX2_kinds_17 : decode cX2_kinds 17 = .ok (.aload_n 0, 1) := by decide +kernel
theorem dX2_kinds_18 : decode cX2_kinds 18 = .ok (.iload_n 2, 1) := by decide +kernel
theorem dX2_kinds_19 : decode cX2_kinds 19 = .ok (.invokevirtual 186, 3) := by decide +kernel
theorem dX2_kinds_22 : decode cX2_kinds 22 = .ok (.istore_n 3, 1) := by decide +kernel
theorem dX2_kinds_23 : decode cX2_kinds 23 = .ok (.iload_n 3, 1) := by decide +kernel
theorem dX2_kinds_24 : decode cX2_kinds 24 = .ok (.ifCond .eq 11, 3) := by decide +kernel
theorem dX2_kinds_27 : decode cX2_kinds 27 = .ok (.aload_n 0, 1) := by decide +kernel
theorem dX2_kinds_28 : decode cX2_kinds 28 = .ok (.iload_n 3, 1) := by decide +kernel
theorem dX2_kinds_29 : decode cX2_kinds 29 = .ok (.invokevirtual 90, 3) := by decide +kernel
theorem dX2_kinds_32 : decode cX2_kinds 32 = .ok (.goto 9, 3) := by decide +kernel
theorem dX2_kinds_35 : decode cX2_kinds 35 = .ok (.aload_n 0, 1) := by decide +kernel
theorem dX2_kinds_36 : decode cX2_kinds 36 = .ok (.iload_n 1, 1) := by decide +kernel
theorem dX2_kinds_37 : decode cX2_kinds 37 = .ok (.iload_n 2, 1) := by decide +kernel
theorem dX2_kinds_38 : decode cX2_kinds 38 = .ok (.invokevirtual 189, 3) := by decide +kernel
theorem dX2_kinds_41 : decode cX2_kinds 41 = .ok (.ireturn, 1) := by decide +kernel
theorem dX2_words_0 : decode cX2_words 0 = .ok (.aload_n 0, 1) := by decide +kernel
theorem dX2_words_1 : decode cX2_words 1 = .ok (.iload_n 1, 1) := by decide +kernel
theorem dX2_words_2 : decode cX2_words 2 = .ok (.invokevirtual 145, 3) := by decide +kernel
theorem dX2_words_5 : decode cX2_words 5 = .ok (.ifCond .eq 10, 3) := by decide +kernel
theorem dX2_words_8 : decode cX2_words 8 = .ok (.iload_n 2, 1) := by decide +kernel
theorem dX2_words_9 : decode cX2_words 9 = .ok (.invokestatic 86, 3) := by decide +kernel
theorem dX2_words_12 : decode cX2_words 12 = .ok (.ifCond .ne 5, 3) := by decide +kernel
theorem dX2_words_15 : decode cX2_words 15 = .ok (.iconst (-1), 1) := by decide +kernel
theorem dX2_words_16 : decode cX2_words 16 = .ok (.ireturn, 1) := by decide +kernel
theorem dX2_words_17 : decode cX2_words 17 = .ok (.aload_n 0, 1) := by decide +kernel
theorem dX2_words_18 : decode cX2_words 18 = .ok (.iload_n 2, 1) := by decide +kernel
theorem dX2_words_19 : decode cX2_words 19 = .ok (.invokevirtual 186, 3) := by decide +kernel
theorem dX2_words_22 : decode cX2_words 22 = .ok (.istore_n 3, 1) := by decide +kernel
theorem dX2_words_23 : decode cX2_words 23 = .ok (.iload_n 3, 1) := by decide +kernel
theorem dX2_words_24 : decode cX2_words 24 = .ok (.ifCond .eq 9, 3) := by decide +kernel
theorem dX2_words_27 : decode cX2_words 27 = .ok (.aload_n 0, 1) := by decide +kernel
theorem dX2_words_28 : decode cX2_words 28 = .ok (.iload_n 3, 1) := by decide +kernel
theorem dX2_words_29 : decode cX2_words 29 = .ok (.invokevirtual 90, 3) := by decide +kernel
theorem dX2_words_32 : decode cX2_words 32 = .ok (.ireturn, 1) := by decide +kernel
theorem dX2_words_33 : decode cX2_words 33 = .ok (.iconst 0, 1) := by decide +kernel
theorem dX2_words_34 : decode cX2_words 34 = .ok (.istore 4, 2) := by decide +kernel
theorem dX2_words_36 : decode cX2_words 36 = .ok (.iconst 0, 1) := by decide +kernel
theorem dX2_words_37 : decode cX2_words 37 = .ok (.istore 5, 2) := by decide +kernel
theorem dX2_words_39 : decode cX2_words 39 = .ok (.iconst 1, 1) := by decide +kernel
theorem dX2_words_40 : decode cX2_words 40 = .ok (.aload_n 0, 1) := by decide +kernel
theorem dX2_words_41 : decode cX2_words 41 = .ok (.getfield 25, 3) := by decide +kernel
theorem dX2_words_44 : decode cX2_words 44 = .ok (.iload_n 1, 1) := by decide +kernel
theorem dX2_words_45 : decode cX2_words 45 = .ok (.iaload, 1) := by decide +kernel
theorem dX2_words_46 : decode cX2_words 46 = .ok (.ishl, 1) := by decide +kernel
theorem dX2_words_47 : decode cX2_words 47 = .ok (.iconst 1, 1) := by decide +kernel
theorem dX2_words_48 : decode cX2_words 48 = .ok (.isub, 1) := by decide +kernel
theorem dX2_words_49 : decode cX2_words 49 = .ok (.istore 6, 2) := by decide +kernel
theorem dX2_words_51 : decode cX2_words 51 = .ok (.iload 6, 2) := by decide +kernel
theorem dX2_words_53 : decode cX2_words 53 = .ok (.ifCond .lt 39, 3) := by decide +kernel
theorem dX2_words_56 : decode cX2_words 56 = .ok (.aload_n 0, 1) := by decide +kernel
theorem dX2_words_57 : decode cX2_words 57 = .ok (.invokevirtual 173, 3) := by decide +kernel
theorem dX2_words_60 : decode cX2_words 60 = .ok (.aload_n 0, 1) := by decide +kernel
theorem dX2_words_61 : decode cX2_words 61 = .ok (.getfield 34, 3) := by decide +kernel
theorem dX2_words_64 : decode cX2_words 64 = .ok (.iconst 1, 1) := by decide +kernel
theorem dX2_words_65 : decode cX2_words 65 = .ok (.iload_n 1, 1) := by decide +kernel
theorem dX2_words_66 : decode cX2_words 66 = .ok (.iadd, 1) := by decide +kernel
theorem dX2_words_67 : decode cX2_words 67 = .ok (.iload 6, 2) := by decide +kernel
theorem dX2_words_69 : decode cX2_words 69 = .ok (.iastore, 1) := by decide +kernel
theorem dX2_words_70 : decode cX2_words 70 = .ok (.aload_n 0, 1) := by decide +kernel
theorem dX2_words_71 : decode cX2_words 71 = .ok (.iload_n 1, 1) := by decide +kernel
theorem dX2_words_72 : decode cX2_words 72 = .ok (.iload_n 2, 1) := by decide +kernel
theorem dX2_words_73 : decode cX2_words 73 = .ok (.invokevirtual 183, 3) := by decide +kernel
theorem dX2_words_76 : decode cX2_words 76 = .ok (.ifCond .eq 10, 3) := by decide +kernel
theorem dX2_words_79 : decode cX2_words 79 = .ok (.iinc 4 1, 3) := by decide +kernel
theorem dX2_words_82 : decode cX2_words 82 = .ok (.iload 6, 2) := by decide +kernel
theorem dX2_words_84 : decode cX2_words 84 = .ok (.istore 5, 2) := by decide +kernel
theorem dX2_words_86 : decode cX2_words 86 = .ok (.iinc 6 (-1), 3) := by decide +kernel
theorem dX2_words_89 : decode cX2_words 89 = .ok (.goto (-38), 3) := by decide +kernel
theorem dX2_words_92 : decode cX2_words 92 = .ok (.iload 4, 2) := by decide +kernel
theorem dX2_words_94 : decode cX2_words 94 = .ok (.ifCond .ne 8, 3) := by decide +kernel
theorem dX2_words_97 : decode cX2_words 97 = .ok (.bipush (-9), 2) := by decide +kernel
theorem dX2_words_99 : decode cX2_words 99 = .ok (.goto 11, 3) := by decide +kernel
theorem dX2_words_102 : decode cX2_words 102 = .ok (.aload_n 0, 1) := by decide +kernel
theorem dX2_words_103 : decode cX2_words 103 = .ok (.iload 5, 2) := by decide +kernel
theorem dX2_words_105 : decode cX2_words 105 = .ok (.iload 4, 2) := by decide +kernel
theorem dX2_words_107 : decode cX2_words 107 = .ok (.invokevirtual 102, 3) := by decide +kernel
theorem dX2_words_110 : decode cX2_words 110 = .ok (.ireturn, 1) := by decide +kernel
theorem dX2_greatest_0 : decode cX2_greatest 0 = .ok (.aload_n 0, 1) := by decide +kernel
theorem dX2_greatest_1 : decode cX2_greatest 1 = .ok (.getfield 22, 3) := by decide +kernel
theorem dX2_greatest_4 : decode cX2_greatest 4 = .ok (.iload_n 1, 1) := by decide +kernel
theorem dX2_greatest_5 : decode cX2_greatest 5 = .ok (.iaload, 1) := by decide +kernel
theorem dX2_greatest_6 : decode cX2_greatest 6 = .ok (.istore 4, 2) := by decide +kernel
theorem dX2_greatest_8 : decode cX2_greatest 8 = .ok (.iconst 0, 1) := by decide +kernel
theorem dX2_greatest_9 : decode cX2_greatest 9 = .ok (.istore 5, 2) := by decide +kernel
theorem dX2_greatest_11 : decode cX2_greatest 11 = .ok (.iload 5, 2) := by decide +kernel
theorem dX2_greatest_13 : decode cX2_greatest 13 = .ok (.bipush 6, 2) := by decide +kernel
theorem dX2_greatest_15 : decode cX2_greatest 15 = .ok (.if_icmp .ge 41, 3) := by decide +kernel
theorem dX2_greatest_18 : decode cX2_greatest 18 = .ok (.aload_n 0, 1) := by decide +kernel
theorem dX2_greatest_19 : decode cX2_greatest 19 = .ok (.getfield 22, 3) := by decide +kernel
theorem dX2_greatest_22 : decode cX2_greatest 22 = .ok (.iload_n 1, 1) := by decide +kernel
theorem dX2_greatest_23 : decode cX2_greatest 23 = .ok (.iload 5, 2) := by decide +kernel
theorem dX2_greatest_25 : decode cX2_greatest 25 = .ok (.iastore, 1) := by decide +kernel
theorem dX2_greatest_26 : decode cX2_greatest 26 = .ok (.aload_n 0, 1) := by decide +kernel
theorem dX2_greatest_27 : decode cX2_greatest 27 = .ok (.invokevirtual 173, 3) := by decide +kernel
theorem dX2_greatest_30 : decode cX2_greatest 30 = .ok (.aload_n 0, 1) := by decide +kernel
theorem dX2_greatest_31 : decode cX2_greatest 31 = .ok (.iload_n 3, 1) := by decide +kernel
theorem dX2_greatest_32 : decode cX2_greatest 32 = .ok (.invokevirtual 176, 3) := by decide +kernel
theorem dX2_greatest_35 : decode cX2_greatest 35 = .ok (.aload_n 0, 1) := by decide +kernel
theorem dX2_greatest_36 : decode cX2_greatest 36 = .ok (.getfield 66, 3) := by decide +kernel
theorem dX2_greatest_39 : decode cX2_greatest 39 = .ok (.iload 5, 2) := by decide +kernel
theorem dX2_greatest_41 : decode cX2_greatest 41 = .ok (.aload_n 0, 1) := by decide +kernel
theorem dX2_greatest_42 : decode cX2_greatest 42 = .ok (.getfield 34, 3) := by decide +kernel
theorem dX2_greatest_45 : decode cX2_greatest 45 = .ok (.iconst 1, 1) := by decide +kernel
theorem dX2_greatest_46 : decode cX2_greatest 46 = .ok (.iload_n 1, 1) := by decide +kernel
theorem dX2_greatest_47 : decode cX2_greatest 47 = .ok (.iadd, 1) := by decide +kernel
theorem dX2_greatest_48 : decode cX2_greatest 48 = .ok (.iaload, 1) := by decide +kernel
theorem dX2_greatest_49 : decode cX2_greatest 49 = .ok (.iastore, 1) := by decide +kernel
theorem dX2_greatest_50 : decode cX2_greatest 50 = .ok (.iinc 5 1, 3) := by decide +kernel
theorem dX2_greatest_53 : decode cX2_greatest 53 = .ok (.goto (-42), 3) := by decide +kernel
theorem dX2_greatest_56 : decode cX2_greatest 56 = .ok (.aload_n 0, 1) := by decide +kernel
theorem dX2_greatest_57 : decode cX2_greatest 57 = .ok (.getfield 22, 3) := by decide +kernel
theorem dX2_greatest_60 : decode cX2_greatest 60 = .ok (.iload_n 1, 1) := by decide +kernel
theorem dX2_greatest_61 : decode cX2_greatest 61 = .ok (.iload 4, 2) := by decide +kernel
theorem dX2_greatest_63 : decode cX2_greatest 63 = .ok (.iastore, 1) := by decide +kernel
theorem dX2_greatest_64 : decode cX2_greatest 64 = .ok (.iconst 0, 1) := by decide +kernel
theorem dX2_greatest_65 : decode cX2_greatest 65 = .ok (.istore 5, 2) := by decide +kernel
theorem dX2_greatest_67 : decode cX2_greatest 67 = .ok (.iconst 0, 1) := by decide +kernel
theorem dX2_greatest_68 : decode cX2_greatest 68 = .ok (.istore 6, 2) := by decide +kernel
theorem dX2_greatest_70 : decode cX2_greatest 70 = .ok (.iload 6, 2) := by decide +kernel
theorem dX2_greatest_72 : decode cX2_greatest 72 = .ok (.bipush 6, 2) := by decide +kernel
theorem dX2_greatest_74 : decode cX2_greatest 74 = .ok (.if_icmp .ge 91, 3) := by decide +kernel
theorem dX2_greatest_77 : decode cX2_greatest 77 = .ok (.iconst 0, 1) := by decide +kernel
theorem dX2_greatest_78 : decode cX2_greatest 78 = .ok (.istore 7, 2) := by decide +kernel
theorem dX2_greatest_80 : decode cX2_greatest 80 = .ok (.iconst 0, 1) := by decide +kernel
theorem dX2_greatest_81 : decode cX2_greatest 81 = .ok (.istore 8, 2) := by decide +kernel
theorem dX2_greatest_83 : decode cX2_greatest 83 = .ok (.iload 8, 2) := by decide +kernel
theorem dX2_greatest_85 : decode cX2_greatest 85 = .ok (.bipush 6, 2) := by decide +kernel
theorem dX2_greatest_87 : decode cX2_greatest 87 = .ok (.if_icmp .ge 56, 3) := by decide +kernel
theorem dX2_greatest_90 : decode cX2_greatest 90 = .ok (.iload 7, 2) := by decide +kernel
theorem dX2_greatest_92 : decode cX2_greatest 92 = .ok (.iload_n 2, 1) := by decide +kernel
theorem dX2_greatest_93 : decode cX2_greatest 93 = .ok (.iload 6, 2) := by decide +kernel
theorem dX2_greatest_95 : decode cX2_greatest 95 = .ok (.ishr, 1) := by decide +kernel
theorem dX2_greatest_96 : decode cX2_greatest 96 = .ok (.iconst 1, 1) := by decide +kernel
theorem dX2_greatest_97 : decode cX2_greatest 97 = .ok (.iand, 1) := by decide +kernel
theorem dX2_greatest_98 : decode cX2_greatest 98 = .ok (.iconst 1, 1) := by decide +kernel
theorem dX2_greatest_99 : decode cX2_greatest 99 = .ok (.if_icmp .ne 34, 3) := by decide +kernel
theorem dX2_greatest_102 : decode cX2_greatest 102 = .ok (.iload_n 2, 1) := by decide +kernel
theorem dX2_greatest_103 : decode cX2_greatest 103 = .ok (.iload 8, 2) := by decide +kernel
theorem dX2_greatest_105 : decode cX2_greatest 105 = .ok (.ishr, 1) := by decide +kernel
theorem dX2_greatest_106 : decode cX2_greatest 106 = .ok (.iconst 1, 1) := by decide +kernel
theorem dX2_greatest_107 : decode cX2_greatest 107 = .ok (.iand, 1) := by decide +kernel
theorem dX2_greatest_108 : decode cX2_greatest 108 = .ok (.iconst 1, 1) := by decide +kernel
theorem dX2_greatest_109 : decode cX2_greatest 109 = .ok (.if_icmp .ne 24, 3) := by decide +kernel
theorem dX2_greatest_112 : decode cX2_greatest 112 = .ok (.aload_n 0, 1) := by decide +kernel
theorem dX2_greatest_113 : decode cX2_greatest 113 = .ok (.getfield 66, 3) := by decide +kernel
theorem dX2_greatest_116 : decode cX2_greatest 116 = .ok (.iload 6, 2) := by decide +kernel
theorem dX2_greatest_118 : decode cX2_greatest 118 = .ok (.iaload, 1) := by decide +kernel
theorem dX2_greatest_119 : decode cX2_greatest 119 = .ok (.aload_n 0, 1) := by decide +kernel
theorem dX2_greatest_120 : decode cX2_greatest 120 = .ok (.getfield 66, 3) := by decide +kernel
theorem dX2_greatest_123 : decode cX2_greatest 123 = .ok (.iload 8, 2) := by decide +kernel
theorem dX2_greatest_125 : decode cX2_greatest 125 = .ok (.iaload, 1) := by decide +kernel
theorem dX2_greatest_126 : decode cX2_greatest 126 = .ok (.if_icmp .ne 7, 3) := by decide +kernel
theorem dX2_greatest_129 : decode cX2_greatest 129 = .ok (.iconst 1, 1) := by decide +kernel
theorem dX2_greatest_130 : decode cX2_greatest 130 = .ok (.goto 4, 3) := by decide +kernel
theorem dX2_greatest_133 : decode cX2_greatest 133 = .ok (.iconst 0, 1) := by decide +kernel
theorem dX2_greatest_134 : decode cX2_greatest 134 = .ok (.iadd, 1) := by decide +kernel
theorem dX2_greatest_135 : decode cX2_greatest 135 = .ok (.istore 7, 2) := by decide +kernel
theorem dX2_greatest_137 : decode cX2_greatest 137 = .ok (.iinc 8 1, 3) := by decide +kernel
theorem dX2_greatest_140 : decode cX2_greatest 140 = .ok (.goto (-57), 3) := by decide +kernel
theorem dX2_greatest_143 : decode cX2_greatest 143 = .ok (.iload 7, 2) := by decide +kernel
theorem dX2_greatest_145 : decode cX2_greatest 145 = .ok (.iload 5, 2) := by decide +kernel
theorem dX2_greatest_147 : decode cX2_greatest 147 = .ok (.if_icmp .le 8, 3) := by decide +kernel
theorem dX2_greatest_150 : decode cX2_greatest 150 = .ok (.iload 7, 2) := by decide +kernel
theorem dX2_greatest_152 : decode cX2_greatest 152 = .ok (.goto 5, 3) := by decide +kernel
theorem dX2_greatest_155 : decode cX2_greatest 155 = .ok (.iload 5, 2) := by decide +kernel
theorem dX2_greatest_157 : decode cX2_greatest 157 = .ok (.istore 5, 2) := by decide +kernel
theorem dX2_greatest_159 : decode cX2_greatest 159 = .ok (.iinc 6 1, 3) := by decide +kernel
theorem dX2_greatest_162 : decode cX2_greatest 162 = .ok (.goto (-92), 3) := by decide +kernel
theorem dX2_greatest_165 : decode cX2_greatest 165 = .ok (.iload 5, 2) := by decide +kernel
theorem dX2_greatest_167 : decode cX2_greatest 167 = .ok (.ireturn, 1) := by decide +kernel
theorem dX2_test_0 : decode cX2_test 0 = .ok (.aload_n 0, 1) := by decide +kernel
theorem dX2_test_1 : decode cX2_test 1 = .ok (.iload_n 1, 1) := by decide +kernel
theorem dX2_test_2 : decode cX2_test 2 = .ok (.invokevirtual 145, 3) := by decide +kernel
theorem dX2_test_5 : decode cX2_test 5 = .ok (.ifCond .eq 10, 3) := by decide +kernel
theorem dX2_test_8 : decode cX2_test 8 = .ok (.iload_n 2, 1) := by decide +kernel
theorem dX2_test_9 : decode cX2_test 9 = .ok (.invokestatic 86, 3) := by decide +kernel
theorem dX2_test_12 : decode cX2_test 12 = .ok (.ifCond .ne 5, 3) := by decide +kernel
theorem dX2_test_15 : decode cX2_test 15 = .ok (.iconst (-1), 1) := by decide +kernel
theorem dX2_test_16 : decode cX2_test 16 = .ok (.ireturn, 1) := by decide +kernel
theorem dX2_test_17 : decode cX2_test 17 = .ok (.aload_n 0, 1) := by decide +kernel
theorem dX2_test_18 : decode cX2_test 18 = .ok (.iload_n 2, 1) := by decide +kernel
theorem dX2_test_19 : decode cX2_test 19 = .ok (.invokevirtual 186, 3) := by decide +kernel
theorem dX2_test_22 : decode cX2_test 22 = .ok (.istore_n 3, 1) := by decide +kernel
theorem dX2_test_23 : decode cX2_test 23 = .ok (.iload_n 3, 1) := by decide +kernel
theorem dX2_test_24 : decode cX2_test 24 = .ok (.ifCond .eq 9, 3) := by decide +kernel
theorem dX2_test_27 : decode cX2_test 27 = .ok (.aload_n 0, 1) := by decide +kernel
theorem dX2_test_28 : decode cX2_test 28 = .ok (.iload_n 3, 1) := by decide +kernel
theorem dX2_test_29 : decode cX2_test 29 = .ok (.invokevirtual 90, 3) := by decide +kernel
theorem dX2_test_32 : decode cX2_test 32 = .ok (.ireturn, 1) := by decide +kernel
theorem dX2_test_33 : decode cX2_test 33 = .ok (.aload_n 0, 1) := by decide +kernel
theorem dX2_test_34 : decode cX2_test 34 = .ok (.iload_n 1, 1) := by decide +kernel
theorem dX2_test_35 : decode cX2_test 35 = .ok (.iload_n 2, 1) := by decide +kernel
theorem dX2_test_36 : decode cX2_test 36 = .ok (.invokevirtual 189, 3) := by decide +kernel
theorem dX2_test_39 : decode cX2_test 39 = .ok (.istore 4, 2) := by decide +kernel
theorem dX2_test_41 : decode cX2_test 41 = .ok (.iload 4, 2) := by decide +kernel
theorem dX2_test_43 : decode cX2_test 43 = .ok (.ifCond .ne 6, 3) := by decide +kernel
theorem dX2_test_46 : decode cX2_test 46 = .ok (.bipush (-9), 2) := by decide +kernel
theorem dX2_test_48 : decode cX2_test 48 = .ok (.ireturn, 1) := by decide +kernel
theorem dX2_test_49 : decode cX2_test 49 = .ok (.iconst 0, 1) := by decide +kernel
theorem dX2_test_50 : decode cX2_test 50 = .ok (.istore 5, 2) := by decide +kernel
theorem dX2_test_52 : decode cX2_test 52 = .ok (.bipush 7, 2) := by decide +kernel
theorem dX2_test_54 : decode cX2_test 54 = .ok (.istore 6, 2) := by decide +kernel
theorem dX2_test_56 : decode cX2_test 56 = .ok (.iconst 1, 1) := by decide +kernel
theorem dX2_test_57 : decode cX2_test 57 = .ok (.istore 7, 2) := by decide +kernel
theorem dX2_test_59 : decode cX2_test 59 = .ok (.iload 7, 2) := by decide +kernel
theorem dX2_test_61 : decode cX2_test 61 = .ok (.bipush 20, 2) := by decide +kernel
theorem dX2_test_63 : decode cX2_test 63 = .ok (.if_icmp .gt 52, 3) := by decide +kernel
theorem dX2_test_66 : decode cX2_test 66 = .ok (.aload_n 0, 1) := by decide +kernel
theorem dX2_test_67 : decode cX2_test 67 = .ok (.iload_n 1, 1) := by decide +kernel
theorem dX2_test_68 : decode cX2_test 68 = .ok (.iload 4, 2) := by decide +kernel
theorem dX2_test_70 : decode cX2_test 70 = .ok (.iload 7, 2) := by decide +kernel
theorem dX2_test_72 : decode cX2_test 72 = .ok (.invokevirtual 192, 3) := by decide +kernel
theorem dX2_test_75 : decode cX2_test 75 = .ok (.istore 8, 2) := by decide +kernel
theorem dX2_test_77 : decode cX2_test 77 = .ok (.iload 8, 2) := by decide +kernel
theorem dX2_test_79 : decode cX2_test 79 = .ok (.iload 6, 2) := by decide +kernel
theorem dX2_test_81 : decode cX2_test 81 = .ok (.if_icmp .ge 8, 3) := by decide +kernel
theorem dX2_test_84 : decode cX2_test 84 = .ok (.iload 7, 2) := by decide +kernel
theorem dX2_test_86 : decode cX2_test 86 = .ok (.goto 5, 3) := by decide +kernel
theorem dX2_test_89 : decode cX2_test 89 = .ok (.iload 5, 2) := by decide +kernel
theorem dX2_test_91 : decode cX2_test 91 = .ok (.istore 5, 2) := by decide +kernel
theorem dX2_test_93 : decode cX2_test 93 = .ok (.iload 8, 2) := by decide +kernel
theorem dX2_test_95 : decode cX2_test 95 = .ok (.iload 6, 2) := by decide +kernel
theorem dX2_test_97 : decode cX2_test 97 = .ok (.if_icmp .ge 8, 3) := by decide +kernel
theorem dX2_test_100 : decode cX2_test 100 = .ok (.iload 8, 2) := by decide +kernel
theorem dX2_test_102 : decode cX2_test 102 = .ok (.goto 5, 3) := by decide +kernel
theorem dX2_test_105 : decode cX2_test 105 = .ok (.iload 6, 2) := by decide +kernel
theorem dX2_test_107 : decode cX2_test 107 = .ok (.istore 6, 2) := by decide +kernel
theorem dX2_test_109 : decode cX2_test 109 = .ok (.iinc 7 1, 3) := by decide +kernel
theorem dX2_test_112 : decode cX2_test 112 = .ok (.goto (-53), 3) := by decide +kernel
theorem dX2_test_115 : decode cX2_test 115 = .ok (.aload_n 0, 1) := by decide +kernel
theorem dX2_test_116 : decode cX2_test 116 = .ok (.iload 6, 2) := by decide +kernel
theorem dX2_test_118 : decode cX2_test 118 = .ok (.iload 5, 2) := by decide +kernel
theorem dX2_test_120 : decode cX2_test 120 = .ok (.invokevirtual 102, 3) := by decide +kernel
theorem dX2_test_123 : decode cX2_test 123 = .ok (.ireturn, 1) := by decide +kernel
theorem dX2_worthOf_0 : decode cX2_worthOf 0 = .ok (.aload_n 0, 1) := by decide +kernel
theorem dX2_worthOf_1 : decode cX2_worthOf 1 = .ok (.invokevirtual 173, 3) := by decide +kernel
theorem dX2_worthOf_4 : decode cX2_worthOf 4 = .ok (.iconst 0, 1) := by decide +kernel
theorem dX2_worthOf_5 : decode cX2_worthOf 5 = .ok (.istore_n 3, 1) := by decide +kernel
theorem dX2_worthOf_6 : decode cX2_worthOf 6 = .ok (.iload_n 3, 1) := by decide +kernel
theorem dX2_worthOf_7 : decode cX2_worthOf 7 = .ok (.iload_n 2, 1) := by decide +kernel
theorem dX2_worthOf_8 : decode cX2_worthOf 8 = .ok (.if_icmp .ge 82, 3) := by decide +kernel
theorem dX2_worthOf_11 : decode cX2_worthOf 11 = .ok (.iload_n 1, 1) := by decide +kernel
theorem dX2_worthOf_12 : decode cX2_worthOf 12 = .ok (.iconst 3, 1) := by decide +kernel
theorem dX2_worthOf_13 : decode cX2_worthOf 13 = .ok (.iload_n 2, 1) := by decide +kernel
theorem dX2_worthOf_14 : decode cX2_worthOf 14 = .ok (.iconst 1, 1) := by decide +kernel
theorem dX2_worthOf_15 : decode cX2_worthOf 15 = .ok (.isub, 1) := by decide +kernel
theorem dX2_worthOf_16 : decode cX2_worthOf 16 = .ok (.iload_n 3, 1) := by decide +kernel
theorem dX2_worthOf_17 : decode cX2_worthOf 17 = .ok (.isub, 1) := by decide +kernel
theorem dX2_worthOf_18 : decode cX2_worthOf 18 = .ok (.imul, 1) := by decide +kernel
theorem dX2_worthOf_19 : decode cX2_worthOf 19 = .ok (.ishr, 1) := by decide +kernel
theorem dX2_worthOf_20 : decode cX2_worthOf 20 = .ok (.bipush 7, 2) := by decide +kernel
theorem dX2_worthOf_22 : decode cX2_worthOf 22 = .ok (.iand, 1) := by decide +kernel
theorem dX2_worthOf_23 : decode cX2_worthOf 23 = .ok (.iconst 1, 1) := by decide +kernel
theorem dX2_worthOf_24 : decode cX2_worthOf 24 = .ok (.isub, 1) := by decide +kernel
theorem dX2_worthOf_25 : decode cX2_worthOf 25 = .ok (.istore 4, 2) := by decide +kernel
theorem dX2_worthOf_27 : decode cX2_worthOf 27 = .ok (.iload 4, 2) := by decide +kernel
theorem dX2_worthOf_29 : decode cX2_worthOf 29 = .ok (.aload_n 0, 1) := by decide +kernel
theorem dX2_worthOf_30 : decode cX2_worthOf 30 = .ok (.getfield 79, 3) := by decide +kernel
theorem dX2_worthOf_33 : decode cX2_worthOf 33 = .ok (.if_icmp .lt 5, 3) := by decide +kernel
theorem dX2_worthOf_36 : decode cX2_worthOf 36 = .ok (.iconst (-1), 1) := by decide +kernel
theorem dX2_worthOf_37 : decode cX2_worthOf 37 = .ok (.ireturn, 1) := by decide +kernel
theorem dX2_worthOf_38 : decode cX2_worthOf 38 = .ok (.iload 4, 2) := by decide +kernel
theorem dX2_worthOf_40 : decode cX2_worthOf 40 = .ok (.ifCond .lt 44, 3) := by decide +kernel
theorem dX2_worthOf_43 : decode cX2_worthOf 43 = .ok (.aload_n 0, 1) := by decide +kernel
theorem dX2_worthOf_44 : decode cX2_worthOf 44 = .ok (.getfield 34, 3) := by decide +kernel
theorem dX2_worthOf_47 : decode cX2_worthOf 47 = .ok (.iconst 1, 1) := by decide +kernel
theorem dX2_worthOf_48 : decode cX2_worthOf 48 = .ok (.iload 4, 2) := by decide +kernel
theorem dX2_worthOf_50 : decode cX2_worthOf 50 = .ok (.iadd, 1) := by decide +kernel
theorem dX2_worthOf_51 : decode cX2_worthOf 51 = .ok (.iload_n 3, 1) := by decide +kernel
theorem dX2_worthOf_52 : decode cX2_worthOf 52 = .ok (.iconst 2, 1) := by decide +kernel
theorem dX2_worthOf_53 : decode cX2_worthOf 53 = .ok (.irem, 1) := by decide +kernel
theorem dX2_worthOf_54 : decode cX2_worthOf 54 = .ok (.ifCond .ne 17, 3) := by decide +kernel
theorem dX2_worthOf_57 : decode cX2_worthOf 57 = .ok (.aload_n 0, 1) := by decide +kernel
theorem dX2_worthOf_58 : decode cX2_worthOf 58 = .ok (.getfield 34, 3) := by decide +kernel
theorem dX2_worthOf_61 : decode cX2_worthOf 61 = .ok (.iconst 1, 1) := by decide +kernel
theorem dX2_worthOf_62 : decode cX2_worthOf 62 = .ok (.iload 4, 2) := by decide +kernel
theorem dX2_worthOf_64 : decode cX2_worthOf 64 = .ok (.iadd, 1) := by decide +kernel
theorem dX2_worthOf_65 : decode cX2_worthOf 65 = .ok (.iaload, 1) := by decide +kernel
theorem dX2_worthOf_66 : decode cX2_worthOf 66 = .ok (.iconst 1, 1) := by decide +kernel
theorem dX2_worthOf_67 : decode cX2_worthOf 67 = .ok (.ior, 1) := by decide +kernel
theorem dX2_worthOf_68 : decode cX2_worthOf 68 = .ok (.goto 15, 3) := by decide +kernel
theorem dX2_worthOf_71 : decode cX2_worthOf 71 = .ok (.aload_n 0, 1) := by decide +kernel
theorem dX2_worthOf_72 : decode cX2_worthOf 72 = .ok (.getfield 34, 3) := by decide +kernel
theorem dX2_worthOf_75 : decode cX2_worthOf 75 = .ok (.iconst 1, 1) := by decide +kernel
theorem dX2_worthOf_76 : decode cX2_worthOf 76 = .ok (.iload 4, 2) := by decide +kernel
theorem dX2_worthOf_78 : decode cX2_worthOf 78 = .ok (.iadd, 1) := by decide +kernel
theorem dX2_worthOf_79 : decode cX2_worthOf 79 = .ok (.iaload, 1) := by decide +kernel
theorem dX2_worthOf_80 : decode cX2_worthOf 80 = .ok (.bipush (-2), 2) := by decide +kernel
theorem dX2_worthOf_82 : decode cX2_worthOf 82 = .ok (.iand, 1) := by decide +kernel
theorem dX2_worthOf_83 : decode cX2_worthOf 83 = .ok (.iastore, 1) := by decide +kernel
theorem dX2_worthOf_84 : decode cX2_worthOf 84 = .ok (.iinc 3 1, 3) := by decide +kernel
theorem dX2_worthOf_87 : decode cX2_worthOf 87 = .ok (.goto (-81), 3) := by decide +kernel
theorem dX2_worthOf_90 : decode cX2_worthOf 90 = .ok (.aload_n 0, 1) := by decide +kernel
theorem dX2_worthOf_91 : decode cX2_worthOf 91 = .ok (.bipush 8, 2) := by decide +kernel
theorem dX2_worthOf_93 : decode cX2_worthOf 93 = .ok (.invokevirtual 176, 3) := by decide +kernel
theorem dX2_worthOf_96 : decode cX2_worthOf 96 = .ok (.aload_n 0, 1) := by decide +kernel
theorem dX2_worthOf_97 : decode cX2_worthOf 97 = .ok (.aload_n 0, 1) := by decide +kernel
theorem dX2_worthOf_98 : decode cX2_worthOf 98 = .ok (.getfield 34, 3) := by decide +kernel
theorem dX2_worthOf_101 : decode cX2_worthOf 101 = .ok (.invokevirtual 162, 3) := by decide +kernel
theorem dX2_worthOf_104 : decode cX2_worthOf 104 = .ok (.ireturn, 1) := by decide +kernel
theorem dX2_duel_0 : decode cX2_duel 0 = .ok (.iload_n 1, 1) := by decide +kernel
theorem dX2_duel_1 : decode cX2_duel 1 = .ok (.iconst 0, 1) := by decide +kernel
theorem dX2_duel_2 : decode cX2_duel 2 = .ok (.iconst 3, 1) := by decide +kernel
theorem dX2_duel_3 : decode cX2_duel 3 = .ok (.invokestatic 82, 3) := by decide +kernel
theorem dX2_duel_6 : decode cX2_duel 6 = .ok (.ifCond .ne 5, 3) := by decide +kernel
theorem dX2_duel_9 : decode cX2_duel 9 = .ok (.iconst (-1), 1) := by decide +kernel
theorem dX2_duel_10 : decode cX2_duel 10 = .ok (.ireturn, 1) := by decide +kernel
theorem dX2_duel_11 : decode cX2_duel 11 = .ok (.aload_n 0, 1) := by decide +kernel
theorem dX2_duel_12 : decode cX2_duel 12 = .ok (.getfield 79, 3) := by decide +kernel
theorem dX2_duel_15 : decode cX2_duel 15 = .ok (.ifCond .ne 6, 3) := by decide +kernel
theorem dX2_duel_18 : decode cX2_duel 18 = .ok (.bipush (-4), 2) := by decide +kernel
theorem dX2_duel_20 : decode cX2_duel 20 = .ok (.ireturn, 1) := by decide +kernel
theorem dX2_duel_21 : decode cX2_duel 21 = .ok (.iconst 0, 1) := by decide +kernel
theorem dX2_duel_22 : decode cX2_duel 22 = .ok (.istore_n 2, 1) := by decide +kernel
theorem dX2_duel_23 : decode cX2_duel 23 = .ok (.iload_n 2, 1) := by decide +kernel
theorem dX2_duel_24 : decode cX2_duel 24 = .ok (.iconst 1, 1) := by decide +kernel
theorem dX2_duel_25 : decode cX2_duel 25 = .ok (.iconst 3, 1) := by decide +kernel
theorem dX2_duel_26 : decode cX2_duel 26 = .ok (.iload_n 1, 1) := by decide +kernel
