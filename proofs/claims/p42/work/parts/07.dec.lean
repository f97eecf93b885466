/-! decode rows (printed, given for pasting) -/
theorem dL_cell_0 : decode cL_cell 0 = .ok (.iload_n 1, 1) := by decide +kernel
theorem dL_cell_1 : decode cL_cell 1 = .ok (.aload_n 0, 1) := by decide +kernel
theorem dL_cell_2 : decode cL_cell 2 = .ok (.arraylength, 1) := by decide +kernel
theorem dL_cell_3 : decode cL_cell 3 = .ok (.if_icmp .ge 9, 3) := by decide +kernel
theorem dL_cell_6 : decode cL_cell 6 = .ok (.aload_n 0, 1) := by decide +kernel
theorem dL_cell_7 : decode cL_cell 7 = .ok (.iload_n 1, 1) := by decide +kernel
theorem dL_cell_8 : decode cL_cell 8 = .ok (.iaload, 1) := by decide +kernel
theorem dL_cell_9 : decode cL_cell 9 = .ok (.goto 11, 3) := by decide +kernel
theorem dL_cell_12 : decode cL_cell 12 = .ok (.sipush 7919, 3) := by decide +kernel
theorem dL_cell_15 : decode cL_cell 15 = .ok (.iload_n 1, 1) := by decide +kernel
theorem dL_cell_16 : decode cL_cell 16 = .ok (.imul, 1) := by decide +kernel
theorem dL_cell_17 : decode cL_cell 17 = .ok (.bipush 12, 2) := by decide +kernel
theorem dL_cell_19 : decode cL_cell 19 = .ok (.iadd, 1) := by decide +kernel
theorem dL_cell_20 : decode cL_cell 20 = .ok (.ireturn, 1) := by decide +kernel
theorem dL_some_0 : decode cL_some 0 = .ok (.aload_n 0, 1) := by decide +kernel
theorem dL_some_1 : decode cL_some 1 = .ok (.iload_n 1, 1) := by decide +kernel
theorem dL_some_2 : decode cL_some 2 = .ok (.invokestatic 7, 3) := by decide +kernel
theorem dL_some_5 : decode cL_some 5 = .ok (.iconst 3, 1) := by decide +kernel
theorem dL_some_6 : decode cL_some 6 = .ok (.iushr, 1) := by decide +kernel
theorem dL_some_7 : decode cL_some 7 = .ok (.iload_n 2, 1) := by decide +kernel
theorem dL_some_8 : decode cL_some 8 = .ok (.irem, 1) := by decide +kernel
theorem dL_some_9 : decode cL_some 9 = .ok (.ireturn, 1) := by decide +kernel
theorem dL_type_0 : decode cL_type 0 = .ok (.iconst 0, 1) := by decide +kernel
theorem dL_type_1 : decode cL_type 1 = .ok (.istore_n 3, 1) := by decide +kernel
theorem dL_type_2 : decode cL_type 2 = .ok (.iload_n 3, 1) := by decide +kernel
theorem dL_type_3 : decode cL_type 3 = .ok (.aload_n 1, 1) := by decide +kernel
theorem dL_type_4 : decode cL_type 4 = .ok (.invokevirtual 13, 3) := by decide +kernel
theorem dL_type_7 : decode cL_type 7 = .ok (.if_icmp .ge 19, 3) := by decide +kernel
theorem dL_type_10 : decode cL_type 10 = .ok (.aload_n 0, 1) := by decide +kernel
theorem dL_type_11 : decode cL_type 11 = .ok (.aload_n 1, 1) := by decide +kernel
theorem dL_type_12 : decode cL_type 12 = .ok (.iload_n 3, 1) := by decide +kernel
theorem dL_type_13 : decode cL_type 13 = .ok (.invokevirtual 19, 3) := by decide +kernel
theorem dL_type_16 : decode cL_type 16 = .ok (.invokevirtual 23, 3) := by decide +kernel
theorem dL_type_19 : decode cL_type 19 = .ok (.istore_n 2, 1) := by decide +kernel
theorem dL_type_20 : decode cL_type 20 = .ok (.iinc 3 1, 3) := by decide +kernel
theorem dL_type_23 : decode cL_type 23 = .ok (.goto (-21), 3) := by decide +kernel
theorem dL_type_26 : decode cL_type 26 = .ok (.return_, 1) := by decide +kernel
theorem dL_add_0 : decode cL_add 0 = .ok (.aload_n 0, 1) := by decide +kernel
theorem dL_add_1 : decode cL_add 1 = .ok (.aload_n 1, 1) := by decide +kernel
theorem dL_add_2 : decode cL_add 2 = .ok (.invokestatic 29, 3) := by decide +kernel
theorem dL_add_5 : decode cL_add 5 = .ok (.aload_n 0, 1) := by decide +kernel
theorem dL_add_6 : decode cL_add 6 = .ok (.invokevirtual 33, 3) := by decide +kernel
theorem dL_add_9 : decode cL_add 9 = .ok (.ireturn, 1) := by decide +kernel
theorem dL_add_10 : decode cL_add 10 = .ok (.astore_n 2, 1) := by decide +kernel
theorem dL_add_11 : decode cL_add 11 = .ok (.sipush (-1000), 3) := by decide +kernel
theorem dL_add_14 : decode cL_add 14 = .ok (.aload_n 0, 1) := by decide +kernel
theorem dL_add_15 : decode cL_add 15 = .ok (.iconst 0, 1) := by decide +kernel
theorem dL_add_16 : decode cL_add 16 = .ok (.iconst 0, 1) := by decide +kernel
theorem dL_add_17 : decode cL_add 17 = .ok (.invokevirtual 38, 3) := by decide +kernel
theorem dL_add_20 : decode cL_add 20 = .ok (.isub, 1) := by decide +kernel
theorem dL_add_21 : decode cL_add 21 = .ok (.ireturn, 1) := by decide +kernel
theorem dL_cut_0 : decode cL_cut 0 = .ok (.aload_n 0, 1) := by decide +kernel
theorem dL_cut_1 : decode cL_cut 1 = .ok (.iload_n 1, 1) := by decide +kernel
theorem dL_cut_2 : decode cL_cut 2 = .ok (.invokevirtual 42, 3) := by decide +kernel
theorem dL_cut_5 : decode cL_cut 5 = .ok (.ireturn, 1) := by decide +kernel
theorem dL_cut_6 : decode cL_cut 6 = .ok (.astore_n 2, 1) := by decide +kernel
theorem dL_cut_7 : decode cL_cut 7 = .ok (.sipush (-1000), 3) := by decide +kernel
theorem dL_cut_10 : decode cL_cut 10 = .ok (.aload_n 0, 1) := by decide +kernel
theorem dL_cut_11 : decode cL_cut 11 = .ok (.iconst 0, 1) := by decide +kernel
theorem dL_cut_12 : decode cL_cut 12 = .ok (.iconst 0, 1) := by decide +kernel
theorem dL_cut_13 : decode cL_cut 13 = .ok (.invokevirtual 38, 3) := by decide +kernel
theorem dL_cut_16 : decode cL_cut 16 = .ok (.isub, 1) := by decide +kernel
theorem dL_cut_17 : decode cL_cut 17 = .ok (.ireturn, 1) := by decide +kernel
theorem dL_change_0 : decode cL_change 0 = .ok (.aload_n 0, 1) := by decide +kernel
theorem dL_change_1 : decode cL_change 1 = .ok (.iload_n 1, 1) := by decide +kernel
theorem dL_change_2 : decode cL_change 2 = .ok (.iload_n 2, 1) := by decide +kernel
theorem dL_change_3 : decode cL_change 3 = .ok (.iload_n 3, 1) := by decide +kernel
theorem dL_change_4 : decode cL_change 4 = .ok (.invokevirtual 46, 3) := by decide +kernel
theorem dL_change_7 : decode cL_change 7 = .ok (.ireturn, 1) := by decide +kernel
theorem dL_change_8 : decode cL_change 8 = .ok (.astore 4, 2) := by decide +kernel
theorem dL_change_10 : decode cL_change 10 = .ok (.sipush (-1000), 3) := by decide +kernel
theorem dL_change_13 : decode cL_change 13 = .ok (.aload_n 0, 1) := by decide +kernel
theorem dL_change_14 : decode cL_change 14 = .ok (.iconst 0, 1) := by decide +kernel
theorem dL_change_15 : decode cL_change 15 = .ok (.iconst 0, 1) := by decide +kernel
theorem dL_change_16 : decode cL_change 16 = .ok (.invokevirtual 38, 3) := by decide +kernel
theorem dL_change_19 : decode cL_change 19 = .ok (.isub, 1) := by decide +kernel
theorem dL_change_20 : decode cL_change 20 = .ok (.ireturn, 1) := by decide +kernel
theorem dL_swap_0 : decode cL_swap 0 = .ok (.aload_n 0, 1) := by decide +kernel
theorem dL_swap_1 : decode cL_swap 1 = .ok (.iload_n 1, 1) := by decide +kernel
theorem dL_swap_2 : decode cL_swap 2 = .ok (.iload_n 2, 1) := by decide +kernel
theorem dL_swap_3 : decode cL_swap 3 = .ok (.invokevirtual 50, 3) := by decide +kernel
theorem dL_swap_6 : decode cL_swap 6 = .ok (.ireturn, 1) := by decide +kernel
theorem dL_swap_7 : decode cL_swap 7 = .ok (.astore_n 3, 1) := by decide +kernel
theorem dL_swap_8 : decode cL_swap 8 = .ok (.sipush (-1000), 3) := by decide +kernel
theorem dL_swap_11 : decode cL_swap 11 = .ok (.aload_n 0, 1) := by decide +kernel
theorem dL_swap_12 : decode cL_swap 12 = .ok (.iconst 0, 1) := by decide +kernel
theorem dL_swap_13 : decode cL_swap 13 = .ok (.iconst 0, 1) := by decide +kernel
theorem dL_swap_14 : decode cL_swap 14 = .ok (.invokevirtual 38, 3) := by decide +kernel
theorem dL_swap_17 : decode cL_swap 17 = .ok (.isub, 1) := by decide +kernel
theorem dL_swap_18 : decode cL_swap 18 = .ok (.ireturn, 1) := by decide +kernel
theorem dL_join_0 : decode cL_join 0 = .ok (.aload_n 0, 1) := by decide +kernel
theorem dL_join_1 : decode cL_join 1 = .ok (.iload_n 1, 1) := by decide +kernel
theorem dL_join_2 : decode cL_join 2 = .ok (.iload_n 2, 1) := by decide +kernel
theorem dL_join_3 : decode cL_join 3 = .ok (.invokevirtual 54, 3) := by decide +kernel
theorem dL_join_6 : decode cL_join 6 = .ok (.ireturn, 1) := by decide +kernel
theorem dL_join_7 : decode cL_join 7 = .ok (.astore_n 3, 1) := by decide +kernel
theorem dL_join_8 : decode cL_join 8 = .ok (.sipush (-1000), 3) := by decide +kernel
theorem dL_join_11 : decode cL_join 11 = .ok (.aload_n 0, 1) := by decide +kernel
theorem dL_join_12 : decode cL_join 12 = .ok (.iconst 0, 1) := by decide +kernel
theorem dL_join_13 : decode cL_join 13 = .ok (.iconst 0, 1) := by decide +kernel
theorem dL_join_14 : decode cL_join 14 = .ok (.invokevirtual 38, 3) := by decide +kernel
theorem dL_join_17 : decode cL_join 17 = .ok (.isub, 1) := by decide +kernel
theorem dL_join_18 : decode cL_join 18 = .ok (.ireturn, 1) := by decide +kernel
theorem dL_turn_0 : decode cL_turn 0 = .ok (.aload_n 0, 1) := by decide +kernel
theorem dL_turn_1 : decode cL_turn 1 = .ok (.iload_n 1, 1) := by decide +kernel
theorem dL_turn_2 : decode cL_turn 2 = .ok (.invokevirtual 57, 3) := by decide +kernel
theorem dL_turn_5 : decode cL_turn 5 = .ok (.ireturn, 1) := by decide +kernel
theorem dL_turn_6 : decode cL_turn 6 = .ok (.astore_n 2, 1) := by decide +kernel
theorem dL_turn_7 : decode cL_turn 7 = .ok (.sipush (-1000), 3) := by decide +kernel
theorem dL_turn_10 : decode cL_turn 10 = .ok (.aload_n 0, 1) := by decide +kernel
theorem dL_turn_11 : decode cL_turn 11 = .ok (.iconst 0, 1) := by decide +kernel
theorem dL_turn_12 : decode cL_turn 12 = .ok (.iconst 0, 1) := by decide +kernel
theorem dL_turn_13 : decode cL_turn 13 = .ok (.invokevirtual 38, 3) := by decide +kernel
theorem dL_turn_16 : decode cL_turn 16 = .ok (.isub, 1) := by decide +kernel
theorem dL_turn_17 : decode cL_turn 17 = .ok (.ireturn, 1) := by decide +kernel
theorem dL_ending_0 : decode cL_ending 0 = .ok (.bipush 10, 2) := by decide +kernel
theorem dL_ending_2 : decode cL_ending 2 = .ok (.aload_n 0, 1) := by decide +kernel
theorem dL_ending_3 : decode cL_ending 3 = .ok (.iload_n 1, 1) := by decide +kernel
theorem dL_ending_4 : decode cL_ending 4 = .ok (.iconst 0, 1) := by decide +kernel
theorem dL_ending_5 : decode cL_ending 5 = .ok (.invokevirtual 68, 3) := by decide +kernel
theorem dL_ending_8 : decode cL_ending 8 = .ok (.imul, 1) := by decide +kernel
theorem dL_ending_9 : decode cL_ending 9 = .ok (.aload_n 0, 1) := by decide +kernel
theorem dL_ending_10 : decode cL_ending 10 = .ok (.iload_n 1, 1) := by decide +kernel
theorem dL_ending_11 : decode cL_ending 11 = .ok (.iconst 1, 1) := by decide +kernel
theorem dL_ending_12 : decode cL_ending 12 = .ok (.invokevirtual 68, 3) := by decide +kernel
theorem dL_ending_15 : decode cL_ending 15 = .ok (.iadd, 1) := by decide +kernel
theorem dL_ending_16 : decode cL_ending 16 = .ok (.ireturn, 1) := by decide +kernel
theorem dL_ending_17 : decode cL_ending 17 = .ok (.astore_n 2, 1) := by decide +kernel
theorem dL_ending_18 : decode cL_ending 18 = .ok (.sipush (-2000), 3) := by decide +kernel
theorem dL_ending_21 : decode cL_ending 21 = .ok (.ireturn, 1) := by decide +kernel
theorem dL_common_0 : decode cL_common 0 = .ok (.aload_n 0, 1) := by decide +kernel
theorem dL_common_1 : decode cL_common 1 = .ok (.iload_n 1, 1) := by decide +kernel
theorem dL_common_2 : decode cL_common 2 = .ok (.invokevirtual 73, 3) := by decide +kernel
theorem dL_common_5 : decode cL_common 5 = .ok (.ireturn, 1) := by decide +kernel
theorem dL_common_6 : decode cL_common 6 = .ok (.astore_n 2, 1) := by decide +kernel
theorem dL_common_7 : decode cL_common 7 = .ok (.sipush (-2000), 3) := by decide +kernel
theorem dL_common_10 : decode cL_common 10 = .ok (.ireturn, 1) := by decide +kernel
theorem dL_longestRank_0 : decode cL_longestRank 0 = .ok (.aload_n 0, 1) := by decide +kernel
theorem dL_longestRank_1 : decode cL_longestRank 1 = .ok (.invokevirtual 76, 3) := by decide +kernel
theorem dL_longestRank_4 : decode cL_longestRank 4 = .ok (.ireturn, 1) := by decide +kernel
theorem dL_longestRank_5 : decode cL_longestRank 5 = .ok (.astore_n 1, 1) := by decide +kernel
theorem dL_longestRank_6 : decode cL_longestRank 6 = .ok (.sipush (-2000), 3) := by decide +kernel
theorem dL_longestRank_9 : decode cL_longestRank 9 = .ok (.ireturn, 1) := by decide +kernel
theorem dL_writeLongest_0 : decode cL_writeLongest 0 = .ok (.aload_n 0, 1) := by decide +kernel
theorem dL_writeLongest_1 : decode cL_writeLongest 1 = .ok (.invokevirtual 79, 3) := by decide +kernel
theorem dL_writeLongest_4 : decode cL_writeLongest 4 = .ok (.ireturn, 1) := by decide +kernel
theorem dL_writeLongest_5 : decode cL_writeLongest 5 = .ok (.astore_n 1, 1) := by decide +kernel
theorem dL_writeLongest_6 : decode cL_writeLongest 6 = .ok (.sipush (-2000), 3) := by decide +kernel
theorem dL_writeLongest_9 : decode cL_writeLongest 9 = .ok (.ireturn, 1) := by decide +kernel
theorem dL_finds_0 : decode cL_finds 0 = .ok (.iload_n 1, 1) := by decide +kernel
theorem dL_finds_1 : decode cL_finds 1 = .ok (.ifCond .eq 10, 3) := by decide +kernel
theorem dL_finds_4 : decode cL_finds 4 = .ok (.aload_n 0, 1) := by decide +kernel
theorem dL_finds_5 : decode cL_finds 5 = .ok (.invokevirtual 82, 3) := by decide +kernel
theorem dL_finds_8 : decode cL_finds 8 = .ok (.goto 7, 3) := by decide +kernel
theorem dL_finds_11 : decode cL_finds 11 = .ok (.aload_n 0, 1) := by decide +kernel
theorem dL_finds_12 : decode cL_finds 12 = .ok (.invokevirtual 85, 3) := by decide +kernel
theorem dL_finds_15 : decode cL_finds 15 = .ok (.ireturn, 1) := by decide +kernel
theorem dL_finds_16 : decode cL_finds 16 = .ok (.astore_n 2, 1) := by decide +kernel
theorem dL_finds_17 : decode cL_finds 17 = .ok (.sipush (-4000), 3) := by decide +kernel
theorem dL_finds_20 : decode cL_finds 20 = .ok (.ireturn, 1) := by decide +kernel
theorem dL_firstFind_0 : decode cL_firstFind 0 = .ok (.aload_n 0, 1) := by decide +kernel
theorem dL_firstFind_1 : decode cL_firstFind 1 = .ok (.invokevirtual 88, 3) := by decide +kernel
theorem dL_firstFind_4 : decode cL_firstFind 4 = .ok (.ireturn, 1) := by decide +kernel
theorem dL_firstFind_5 : decode cL_firstFind 5 = .ok (.astore_n 1, 1) := by decide +kernel
theorem dL_firstFind_6 : decode cL_firstFind 6 = .ok (.sipush (-4000), 3) := by decide +kernel
theorem dL_firstFind_9 : decode cL_firstFind 9 = .ok (.ireturn, 1) := by decide +kernel
theorem dL_firstFind_10 : decode cL_firstFind 10 = .ok (.astore_n 1, 1) := by decide +kernel
theorem dL_firstFind_11 : decode cL_firstFind 11 = .ok (.sipush (-2000), 3) := by decide +kernel
theorem dL_firstFind_14 : decode cL_firstFind 14 = .ok (.ireturn, 1) := by decide +kernel
theorem dL_alone_0 : decode cL_alone 0 = .ok (.aload_n 0, 1) := by decide +kernel
theorem dL_alone_1 : decode cL_alone 1 = .ok (.iload_n 1, 1) := by decide +kernel
theorem dL_alone_2 : decode cL_alone 2 = .ok (.invokevirtual 91, 3) := by decide +kernel
theorem dL_alone_5 : decode cL_alone 5 = .ok (.ireturn, 1) := by decide +kernel
theorem dL_alone_6 : decode cL_alone 6 = .ok (.astore_n 2, 1) := by decide +kernel
theorem dL_alone_7 : decode cL_alone 7 = .ok (.sipush (-2000), 3) := by decide +kernel
theorem dL_alone_10 : decode cL_alone 10 = .ok (.ireturn, 1) := by decide +kernel
theorem dL_alonePlace_0 : decode cL_alonePlace 0 = .ok (.aload_n 0, 1) := by decide +kernel
theorem dL_alonePlace_1 : decode cL_alonePlace 1 = .ok (.iload_n 1, 1) := by decide +kernel
theorem dL_alonePlace_2 : decode cL_alonePlace 2 = .ok (.invokevirtual 94, 3) := by decide +kernel
theorem dL_alonePlace_5 : decode cL_alonePlace 5 = .ok (.ireturn, 1) := by decide +kernel
theorem dL_alonePlace_6 : decode cL_alonePlace 6 = .ok (.astore_n 2, 1) := by decide +kernel
theorem dL_alonePlace_7 : decode cL_alonePlace 7 = .ok (.sipush (-2000), 3) := by decide +kernel
theorem dL_alonePlace_10 : decode cL_alonePlace 10 = .ok (.ireturn, 1) := by decide +kernel
theorem dL_line_0 : decode cL_line 0 = .ok (.ldc 100, 2) := by decide +kernel
theorem dL_line_2 : decode cL_line 2 = .ok (.astore_n 2, 1) := by decide +kernel
theorem dL_line_3 : decode cL_line 3 = .ok (.aload_n 0, 1) := by decide +kernel
theorem dL_line_4 : decode cL_line 4 = .ok (.iload_n 1, 1) := by decide +kernel
theorem dL_line_5 : decode cL_line 5 = .ok (.iconst 0, 1) := by decide +kernel
theorem dL_line_6 : decode cL_line 6 = .ok (.invokevirtual 102, 3) := by decide +kernel
theorem dL_line_9 : decode cL_line 9 = .ok (.istore_n 3, 1) := by decide +kernel
theorem dL_line_10 : decode cL_line 10 = .ok (.iconst 0, 1) := by decide +kernel
theorem dL_line_11 : decode cL_line 11 = .ok (.istore 4, 2) := by decide +kernel
theorem dL_line_13 : decode cL_line 13 = .ok (.iload 4, 2) := by decide +kernel
theorem dL_line_15 : decode cL_line 15 = .ok (.iload_n 3, 1) := by decide +kernel
theorem dL_line_16 : decode cL_line 16 = .ok (.if_icmp .ge 34, 3) := by decide +kernel
theorem dL_line_19 : decode cL_line 19 = .ok (.new 105, 3) := by decide +kernel
theorem dL_line_22 : decode cL_line 22 = .ok (.dup, 1) := by decide +kernel
theorem dL_line_23 : decode cL_line 23 = .ok (.invokespecial 107, 3) := by decide +kernel
theorem dL_line_26 : decode cL_line 26 = .ok (.aload_n 2, 1) := by decide +kernel
theorem dL_line_27 : decode cL_line 27 = .ok (.invokevirtual 108, 3) := by decide +kernel
theorem dL_line_30 : decode cL_line 30 = .ok (.aload_n 0, 1) := by decide +kernel
theorem dL_line_31 : decode cL_line 31 = .ok (.iload_n 1, 1) := by decide +kernel
theorem dL_line_32 : decode cL_line 32 = .ok (.iload 4, 2) := by decide +kernel
theorem dL_line_34 : decode cL_line 34 = .ok (.invokevirtual 111, 3) := by decide +kernel
theorem dL_line_37 : decode cL_line 37 = .ok (.invokevirtual 115, 3) := by decide +kernel
theorem dL_line_40 : decode cL_line 40 = .ok (.invokevirtual 118, 3) := by decide +kernel
theorem dL_line_43 : decode cL_line 43 = .ok (.astore_n 2, 1) := by decide +kernel
theorem dL_line_44 : decode cL_line 44 = .ok (.iinc 4 1, 3) := by decide +kernel
theorem dL_line_47 : decode cL_line 47 = .ok (.goto (-34), 3) := by decide +kernel
theorem dL_line_50 : decode cL_line 50 = .ok (.aload_n 2, 1) := by decide +kernel
theorem dL_line_51 : decode cL_line 51 = .ok (.areturn, 1) := by decide +kernel
theorem dL_word_0 : decode cL_word 0 = .ok (.ldc 100, 2) := by decide +kernel
theorem dL_word_2 : decode cL_word 2 = .ok (.astore_n 3, 1) := by decide +kernel
theorem dL_word_3 : decode cL_word 3 = .ok (.iconst 1, 1) := by decide +kernel
theorem dL_word_4 : decode cL_word 4 = .ok (.aload_n 0, 1) := by decide +kernel
theorem dL_word_5 : decode cL_word 5 = .ok (.iload_n 1, 1) := by decide +kernel
theorem dL_word_6 : decode cL_word 6 = .ok (.iload_n 2, 1) := by decide +kernel
theorem dL_word_7 : decode cL_word 7 = .ok (.invokestatic 122, 3) := by decide +kernel
theorem dL_word_10 : decode cL_word 10 = .ok (.iadd, 1) := by decide +kernel
theorem dL_word_11 : decode cL_word 11 = .ok (.istore 4, 2) := by decide +kernel
theorem dL_word_13 : decode cL_word 13 = .ok (.iconst 1, 1) := by decide +kernel
theorem dL_word_14 : decode cL_word 14 = .ok (.aload_n 0, 1) := by decide +kernel
theorem dL_word_15 : decode cL_word 15 = .ok (.iload_n 1, 1) := by decide +kernel
theorem dL_word_16 : decode cL_word 16 = .ok (.iconst 1, 1) := by decide +kernel
theorem dL_word_17 : decode cL_word 17 = .ok (.iadd, 1) := by decide +kernel
theorem dL_word_18 : decode cL_word 18 = .ok (.iconst 4, 1) := by decide +kernel
theorem dL_word_19 : decode cL_word 19 = .ok (.invokestatic 122, 3) := by decide +kernel
theorem dL_word_22 : decode cL_word 22 = .ok (.iadd, 1) := by decide +kernel
theorem dL_word_23 : decode cL_word 23 = .ok (.istore 5, 2) := by decide +kernel
theorem dL_word_25 : decode cL_word 25 = .ok (.iconst 0, 1) := by decide +kernel
theorem dL_word_26 : decode cL_word 26 = .ok (.istore 6, 2) := by decide +kernel
theorem dL_word_28 : decode cL_word 28 = .ok (.iload 6, 2) := by decide +kernel
theorem dL_word_30 : decode cL_word 30 = .ok (.iload 4, 2) := by decide +kernel
theorem dL_word_32 : decode cL_word 32 = .ok (.if_icmp .ge 44, 3) := by decide +kernel
theorem dL_word_35 : decode cL_word 35 = .ok (.new 105, 3) := by decide +kernel
theorem dL_word_38 : decode cL_word 38 = .ok (.dup, 1) := by decide +kernel
theorem dL_word_39 : decode cL_word 39 = .ok (.invokespecial 107, 3) := by decide +kernel
theorem dL_word_42 : decode cL_word 42 = .ok (.aload_n 3, 1) := by decide +kernel
theorem dL_word_43 : decode cL_word 43 = .ok (.invokevirtual 108, 3) := by decide +kernel
theorem dL_word_46 : decode cL_word 46 = .ok (.ldc 126, 2) := by decide +kernel
theorem dL_word_48 : decode cL_word 48 = .ok (.aload_n 0, 1) := by decide +kernel
theorem dL_word_49 : decode cL_word 49 = .ok (.iload_n 1, 1) := by decide +kernel
theorem dL_word_50 : decode cL_word 50 = .ok (.iconst 2, 1) := by decide +kernel
theorem dL_word_51 : decode cL_word 51 = .ok (.iadd, 1) := by decide +kernel
theorem dL_word_52 : decode cL_word 52 = .ok (.iload 6, 2) := by decide +kernel
theorem dL_word_54 : decode cL_word 54 = .ok (.iadd, 1) := by decide +kernel
theorem dL_word_55 : decode cL_word 55 = .ok (.iload 5, 2) := by decide +kernel
theorem dL_word_57 : decode cL_word 57 = .ok (.invokestatic 122, 3) := by decide +kernel
theorem dL_word_60 : decode cL_word 60 = .ok (.invokevirtual 19, 3) := by decide +kernel
theorem dL_word_63 : decode cL_word 63 = .ok (.invokevirtual 115, 3) := by decide +kernel
theorem dL_word_66 : decode cL_word 66 = .ok (.invokevirtual 118, 3) := by decide +kernel
theorem dL_word_69 : decode cL_word 69 = .ok (.astore_n 3, 1) := by decide +kernel
theorem dL_word_70 : decode cL_word 70 = .ok (.iinc 6 1, 3) := by decide +kernel
theorem dL_word_73 : decode cL_word 73 = .ok (.goto (-45), 3) := by decide +kernel
theorem dL_word_76 : decode cL_word 76 = .ok (.aload_n 3, 1) := by decide +kernel
theorem dL_word_77 : decode cL_word 77 = .ok (.areturn, 1) := by decide +kernel
theorem dL_alike_0 : decode cL_alike 0 = .ok (.iconst 0, 1) := by decide +kernel
theorem dL_alike_1 : decode cL_alike 1 = .ok (.istore_n 2, 1) := by decide +kernel
theorem dL_alike_2 : decode cL_alike 2 = .ok (.iload_n 2, 1) := by decide +kernel
theorem dL_alike_3 : decode cL_alike 3 = .ok (.aload_n 0, 1) := by decide +kernel
theorem dL_alike_4 : decode cL_alike 4 = .ok (.invokevirtual 13, 3) := by decide +kernel
theorem dL_alike_7 : decode cL_alike 7 = .ok (.if_icmp .ge 30, 3) := by decide +kernel
theorem dL_alike_10 : decode cL_alike 10 = .ok (.iload_n 2, 1) := by decide +kernel
theorem dL_alike_11 : decode cL_alike 11 = .ok (.aload_n 1, 1) := by decide +kernel
theorem dL_alike_12 : decode cL_alike 12 = .ok (.invokevirtual 13, 3) := by decide +kernel
theorem dL_alike_15 : decode cL_alike 15 = .ok (.if_icmp .ge 22, 3) := by decide +kernel
theorem dL_alike_18 : decode cL_alike 18 = .ok (.aload_n 0, 1) := by decide +kernel
theorem dL_alike_19 : decode cL_alike 19 = .ok (.iload_n 2, 1) := by decide +kernel
theorem dL_alike_20 : decode cL_alike 20 = .ok (.invokevirtual 19, 3) := by decide +kernel
theorem dL_alike_23 : decode cL_alike 23 = .ok (.aload_n 1, 1) := by decide +kernel
theorem dL_alike_24 : decode cL_alike 24 = .ok (.iload_n 2, 1) := by decide +kernel
theorem dL_alike_25 : decode cL_alike 25 = .ok (.invokevirtual 19, 3) := by decide +kernel
theorem dL_alike_28 : decode cL_alike 28 = .ok (.if_icmp .ne 9, 3) := by decide +kernel
theorem dL_alike_31 : decode cL_alike 31 = .ok (.iinc 2 1, 3) := by decide +kernel
theorem dL_alike_34 : decode cL_alike 34 = .ok (.goto (-32), 3) := by decide +kernel
theorem dL_alike_37 : decode cL_alike 37 = .ok (.iload_n 2, 1) := by decide +kernel
theorem dL_alike_38 : decode cL_alike 38 = .ok (.ireturn, 1) := by decide +kernel
theorem dL_compare_0 : decode cL_compare 0 = .ok (.aload_n 0, 1) := by decide +kernel
theorem dL_compare_1 : decode cL_compare 1 = .ok (.aload_n 1, 1) := by decide +kernel
theorem dL_compare_2 : decode cL_compare 2 = .ok (.invokestatic 128, 3) := by decide +kernel
theorem dL_compare_5 : decode cL_compare 5 = .ok (.istore_n 2, 1) := by decide +kernel
theorem dL_compare_6 : decode cL_compare 6 = .ok (.iload_n 2, 1) := by decide +kernel
theorem dL_compare_7 : decode cL_compare 7 = .ok (.aload_n 0, 1) := by decide +kernel
theorem dL_compare_8 : decode cL_compare 8 = .ok (.invokevirtual 13, 3) := by decide +kernel
theorem dL_compare_11 : decode cL_compare 11 = .ok (.if_icmp .ge 25, 3) := by decide +kernel
theorem dL_compare_14 : decode cL_compare 14 = .ok (.iload_n 2, 1) := by decide +kernel
theorem dL_compare_15 : decode cL_compare 15 = .ok (.aload_n 1, 1) := by decide +kernel
theorem dL_compare_16 : decode cL_compare 16 = .ok (.invokevirtual 13, 3) := by decide +kernel
theorem dL_compare_19 : decode cL_compare 19 = .ok (.if_icmp .ge 17, 3) := by decide +kernel
theorem dL_compare_22 : decode cL_compare 22 = .ok (.aload_n 0, 1) := by decide +kernel
theorem dL_compare_23 : decode cL_compare 23 = .ok (.iload_n 2, 1) := by decide +kernel
theorem dL_compare_24 : decode cL_compare 24 = .ok (.invokevirtual 19, 3) := by decide +kernel
theorem dL_compare_27 : decode cL_compare 27 = .ok (.aload_n 1, 1) := by decide +kernel
theorem dL_compare_28 : decode cL_compare 28 = .ok (.iload_n 2, 1) := by decide +kernel
theorem dL_compare_29 : decode cL_compare 29 = .ok (.invokevirtual 19, 3) := by decide +kernel
theorem dL_compare_32 : decode cL_compare 32 = .ok (.isub, 1) := by decide +kernel
theorem dL_compare_33 : decode cL_compare 33 = .ok (.goto 12, 3) := by decide +kernel
theorem dL_compare_36 : decode cL_compare 36 = .ok (.aload_n 0, 1) := by decide +kernel
theorem dL_compare_37 : decode cL_compare 37 = .ok (.invokevirtual 13, 3) := by decide +kernel
theorem dL_compare_40 : decode cL_compare 40 = .ok (.aload_n 1, 1) := by decide +kernel
theorem dL_compare_41 : decode cL_compare 41 = .ok (.invokevirtual 13, 3) := by decide +kernel
theorem dL_compare_44 : decode cL_compare 44 = .ok (.isub, 1) := by decide +kernel
theorem dL_compare_45 : decode cL_compare 45 = .ok (.ireturn, 1) := by decide +kernel
theorem dL_turned_0 : decode cL_turned 0 = .ok (.ldc 100, 2) := by decide +kernel
theorem dL_turned_2 : decode cL_turned 2 = .ok (.astore_n 1, 1) := by decide +kernel
theorem dL_turned_3 : decode cL_turned 3 = .ok (.iconst 0, 1) := by decide +kernel
theorem dL_turned_4 : decode cL_turned 4 = .ok (.istore_n 2, 1) := by decide +kernel
theorem dL_turned_5 : decode cL_turned 5 = .ok (.iload_n 2, 1) := by decide +kernel
theorem dL_turned_6 : decode cL_turned 6 = .ok (.aload_n 0, 1) := by decide +kernel
theorem dL_turned_7 : decode cL_turned 7 = .ok (.invokevirtual 13, 3) := by decide +kernel
theorem dL_turned_10 : decode cL_turned 10 = .ok (.if_icmp .ge 32, 3) := by decide +kernel
theorem dL_turned_13 : decode cL_turned 13 = .ok (.new 105, 3) := by decide +kernel
theorem dL_turned_16 : decode cL_turned 16 = .ok (.dup, 1) := by decide +kernel
theorem dL_turned_17 : decode cL_turned 17 = .ok (.invokespecial 107, 3) := by decide +kernel
theorem dL_turned_20 : decode cL_turned 20 = .ok (.aload_n 0, 1) := by decide +kernel
theorem dL_turned_21 : decode cL_turned 21 = .ok (.iload_n 2, 1) := by decide +kernel
theorem dL_turned_22 : decode cL_turned 22 = .ok (.invokevirtual 19, 3) := by decide +kernel
theorem dL_turned_25 : decode cL_turned 25 = .ok (.invokevirtual 115, 3) := by decide +kernel
theorem dL_turned_28 : decode cL_turned 28 = .ok (.aload_n 1, 1) := by decide +kernel
theorem dL_turned_29 : decode cL_turned 29 = .ok (.invokevirtual 108, 3) := by decide +kernel
theorem dL_turned_32 : decode cL_turned 32 = .ok (.invokevirtual 118, 3) := by decide +kernel
theorem dL_turned_35 : decode cL_turned 35 = .ok (.astore_n 1, 1) := by decide +kernel
theorem dL_turned_36 : decode cL_turned 36 = .ok (.iinc 2 1, 3) := by decide +kernel
theorem dL_turned_39 : decode cL_turned 39 = .ok (.goto (-34), 3) := by decide +kernel
theorem dL_turned_42 : decode cL_turned 42 = .ok (.aload_n 1, 1) := by decide +kernel
theorem dL_turned_43 : decode cL_turned 43 = .ok (.areturn, 1) := by decide +kernel
theorem dL_build_0 : decode cL_build 0 = .ok (.iconst 0, 1) := by decide +kernel
theorem dL_build_1 : decode cL_build 1 = .ok (.istore_n 3, 1) := by decide +kernel
theorem dL_build_2 : decode cL_build 2 = .ok (.iload_n 3, 1) := by decide +kernel
theorem dL_build_3 : decode cL_build 3 = .ok (.iconst 4, 1) := by decide +kernel
theorem dL_build_4 : decode cL_build 4 = .ok (.if_icmp .ge 24, 3) := by decide +kernel
theorem dL_build_7 : decode cL_build 7 = .ok (.aload_n 0, 1) := by decide +kernel
theorem dL_build_8 : decode cL_build 8 = .ok (.aload_n 1, 1) := by decide +kernel
theorem dL_build_9 : decode cL_build 9 = .ok (.bipush 10, 2) := by decide +kernel
theorem dL_build_11 : decode cL_build 11 = .ok (.iload_n 3, 1) := by decide +kernel
theorem dL_build_12 : decode cL_build 12 = .ok (.imul, 1) := by decide +kernel
theorem dL_build_13 : decode cL_build 13 = .ok (.bipush 6, 2) := by decide +kernel
theorem dL_build_15 : decode cL_build 15 = .ok (.invokestatic 132, 3) := by decide +kernel
theorem dL_build_18 : decode cL_build 18 = .ok (.invokestatic 136, 3) := by decide +kernel
theorem dL_build_21 : decode cL_build 21 = .ok (.istore_n 2, 1) := by decide +kernel
theorem dL_build_22 : decode cL_build 22 = .ok (.iinc 3 1, 3) := by decide +kernel
theorem dL_build_25 : decode cL_build 25 = .ok (.goto (-23), 3) := by decide +kernel
theorem dL_build_28 : decode cL_build 28 = .ok (.iconst 0, 1) := by decide +kernel
theorem dL_build_29 : decode cL_build 29 = .ok (.istore_n 3, 1) := by decide +kernel
theorem dL_build_30 : decode cL_build 30 = .ok (.iload_n 3, 1) := by decide +kernel
theorem dL_build_31 : decode cL_build 31 = .ok (.bipush 6, 2) := by decide +kernel
theorem dL_build_33 : decode cL_build 33 = .ok (.if_icmp .ge 20, 3) := by decide +kernel
theorem dL_build_36 : decode cL_build 36 = .ok (.aload_n 0, 1) := by decide +kernel
theorem dL_build_37 : decode cL_build 37 = .ok (.aload_n 1, 1) := by decide +kernel
theorem dL_build_38 : decode cL_build 38 = .ok (.bipush 42, 2) := by decide +kernel
theorem dL_build_40 : decode cL_build 40 = .ok (.iconst 4, 1) := by decide +kernel
theorem dL_build_41 : decode cL_build 41 = .ok (.iload_n 3, 1) := by decide +kernel
theorem dL_build_42 : decode cL_build 42 = .ok (.imul, 1) := by decide +kernel
theorem dL_build_43 : decode cL_build 43 = .ok (.iadd, 1) := by decide +kernel
theorem dL_build_44 : decode cL_build 44 = .ok (.invokestatic 139, 3) := by decide +kernel
theorem dL_build_47 : decode cL_build 47 = .ok (.iinc 3 1, 3) := by decide +kernel
theorem dL_build_50 : decode cL_build 50 = .ok (.goto (-20), 3) := by decide +kernel
theorem dL_build_53 : decode cL_build 53 = .ok (.return_, 1) := by decide +kernel
theorem dL_acts_0 : decode cL_acts 0 = .ok (.iconst 1, 1) := by decide +kernel
theorem dL_acts_1 : decode cL_acts 1 = .ok (.aload_n 0, 1) := by decide +kernel
theorem dL_acts_2 : decode cL_acts 2 = .ok (.iconst 0, 1) := by decide +kernel
theorem dL_acts_3 : decode cL_acts 3 = .ok (.invokevirtual 143, 3) := by decide +kernel
theorem dL_acts_6 : decode cL_acts 6 = .ok (.invokestatic 146, 3) := by decide +kernel
theorem dL_acts_9 : decode cL_acts 9 = .ok (.istore_n 3, 1) := by decide +kernel
theorem dL_acts_10 : decode cL_acts 10 = .ok (.aload_n 1, 1) := by decide +kernel
theorem dL_acts_11 : decode cL_acts 11 = .ok (.iload_n 2, 1) := by decide +kernel
theorem dL_acts_12 : decode cL_acts 12 = .ok (.iconst 1, 1) := by decide +kernel
theorem dL_acts_13 : decode cL_acts 13 = .ok (.iadd, 1) := by decide +kernel
theorem dL_acts_14 : decode cL_acts 14 = .ok (.iload_n 3, 1) := by decide +kernel
theorem dL_acts_15 : decode cL_acts 15 = .ok (.invokestatic 122, 3) := by decide +kernel
theorem dL_acts_18 : decode cL_acts 18 = .ok (.istore 4, 2) := by decide +kernel
theorem dL_acts_20 : decode cL_acts 20 = .ok (.aload_n 1, 1) := by decide +kernel
theorem dL_acts_21 : decode cL_acts 21 = .ok (.iload_n 2, 1) := by decide +kernel
theorem dL_acts_22 : decode cL_acts 22 = .ok (.iconst 2, 1) := by decide +kernel
theorem dL_acts_23 : decode cL_acts 23 = .ok (.iadd, 1) := by decide +kernel
theorem dL_acts_24 : decode cL_acts 24 = .ok (.iload_n 3, 1) := by decide +kernel
theorem dL_acts_25 : decode cL_acts 25 = .ok (.invokestatic 122, 3) := by decide +kernel
theorem dL_acts_28 : decode cL_acts 28 = .ok (.istore 5, 2) := by decide +kernel
theorem dL_acts_30 : decode cL_acts 30 = .ok (.aload_n 1, 1) := by decide +kernel
theorem dL_acts_31 : decode cL_acts 31 = .ok (.iload_n 2, 1) := by decide +kernel
theorem dL_acts_32 : decode cL_acts 32 = .ok (.bipush 10, 2) := by decide +kernel
theorem dL_acts_34 : decode cL_acts 34 = .ok (.invokestatic 122, 3) := by decide +kernel
theorem dL_acts_37 : decode cL_acts 37 = .ok (.tableswitch 130 0 7 #[47, 47, 65, 76, 76, 104, 117, 117], 47) := by decide +kernel
theorem dL_acts_84 : decode cL_acts 84 = .ok (.aload_n 0, 1) := by decide +kernel
theorem dL_acts_85 : decode cL_acts 85 = .ok (.aload_n 1, 1) := by decide +kernel
theorem dL_acts_86 : decode cL_acts 86 = .ok (.iload_n 2, 1) := by decide +kernel
theorem dL_acts_87 : decode cL_acts 87 = .ok (.iconst 1, 1) := by decide +kernel
theorem dL_acts_88 : decode cL_acts 88 = .ok (.iadd, 1) := by decide +kernel
theorem dL_acts_89 : decode cL_acts 89 = .ok (.bipush 7, 2) := by decide +kernel
theorem dL_acts_91 : decode cL_acts 91 = .ok (.invokestatic 132, 3) := by decide +kernel
theorem dL_acts_94 : decode cL_acts 94 = .ok (.invokestatic 136, 3) := by decide +kernel
theorem dL_acts_97 : decode cL_acts 97 = .ok (.istore 6, 2) := by decide +kernel
theorem dL_acts_99 : decode cL_acts 99 = .ok (.goto 76, 3) := by decide +kernel
theorem dL_acts_102 : decode cL_acts 102 = .ok (.aload_n 0, 1) := by decide +kernel
theorem dL_acts_103 : decode cL_acts 103 = .ok (.iload 4, 2) := by decide +kernel
theorem dL_acts_105 : decode cL_acts 105 = .ok (.invokestatic 151, 3) := by decide +kernel
theorem dL_acts_108 : decode cL_acts 108 = .ok (.istore 6, 2) := by decide +kernel
theorem dL_acts_110 : decode cL_acts 110 = .ok (.goto 65, 3) := by decide +kernel
theorem dL_acts_113 : decode cL_acts 113 = .ok (.aload_n 0, 1) := by decide +kernel
theorem dL_acts_114 : decode cL_acts 114 = .ok (.iload 4, 2) := by decide +kernel
theorem dL_acts_116 : decode cL_acts 116 = .ok (.aload_n 1, 1) := by decide +kernel
theorem dL_acts_117 : decode cL_acts 117 = .ok (.iload_n 2, 1) := by decide +kernel
theorem dL_acts_118 : decode cL_acts 118 = .ok (.iconst 3, 1) := by decide +kernel
theorem dL_acts_119 : decode cL_acts 119 = .ok (.iadd, 1) := by decide +kernel
theorem dL_acts_120 : decode cL_acts 120 = .ok (.iconst 4, 1) := by decide +kernel
theorem dL_acts_121 : decode cL_acts 121 = .ok (.invokestatic 122, 3) := by decide +kernel
theorem dL_acts_124 : decode cL_acts 124 = .ok (.ldc 126, 2) := by decide +kernel
theorem dL_acts_126 : decode cL_acts 126 = .ok (.iload 5, 2) := by decide +kernel
theorem dL_acts_128 : decode cL_acts 128 = .ok (.iconst 4, 1) := by decide +kernel
theorem dL_acts_129 : decode cL_acts 129 = .ok (.irem, 1) := by decide +kernel
theorem dL_acts_130 : decode cL_acts 130 = .ok (.invokevirtual 19, 3) := by decide +kernel
theorem dL_acts_133 : decode cL_acts 133 = .ok (.invokestatic 154, 3) := by decide +kernel
theorem dL_acts_136 : decode cL_acts 136 = .ok (.istore 6, 2) := by decide +kernel
theorem dL_acts_138 : decode cL_acts 138 = .ok (.goto 37, 3) := by decide +kernel
theorem dL_acts_141 : decode cL_acts 141 = .ok (.aload_n 0, 1) := by decide +kernel
theorem dL_acts_142 : decode cL_acts 142 = .ok (.iload 4, 2) := by decide +kernel
theorem dL_acts_144 : decode cL_acts 144 = .ok (.iload 5, 2) := by decide +kernel
theorem dL_acts_146 : decode cL_acts 146 = .ok (.invokestatic 157, 3) := by decide +kernel
theorem dL_acts_149 : decode cL_acts 149 = .ok (.istore 6, 2) := by decide +kernel
theorem dL_acts_151 : decode cL_acts 151 = .ok (.goto 24, 3) := by decide +kernel
theorem dL_acts_154 : decode cL_acts 154 = .ok (.aload_n 0, 1) := by decide +kernel
theorem dL_acts_155 : decode cL_acts 155 = .ok (.iload 4, 2) := by decide +kernel
theorem dL_acts_157 : decode cL_acts 157 = .ok (.iload 5, 2) := by decide +kernel
theorem dL_acts_159 : decode cL_acts 159 = .ok (.invokestatic 160, 3) := by decide +kernel
theorem dL_acts_162 : decode cL_acts 162 = .ok (.istore 6, 2) := by decide +kernel
theorem dL_acts_164 : decode cL_acts 164 = .ok (.goto 11, 3) := by decide +kernel
theorem dL_acts_167 : decode cL_acts 167 = .ok (.aload_n 0, 1) := by decide +kernel
theorem dL_acts_168 : decode cL_acts 168 = .ok (.iload 4, 2) := by decide +kernel
theorem dL_acts_170 : decode cL_acts 170 = .ok (.invokestatic 162, 3) := by decide +kernel
theorem dL_acts_173 : decode cL_acts 173 = .ok (.istore 6, 2) := by decide +kernel
theorem dL_acts_175 : decode cL_acts 175 = .ok (.return_, 1) := by decide +kernel
theorem dL_law_0 : decode cL_law 0 = .ok (.new 24, 3) := by decide +kernel
theorem dL_law_3 : decode cL_law 3 = .ok (.dup, 1) := by decide +kernel
theorem dL_law_4 : decode cL_law 4 = .ok (.invokespecial 170, 3) := by decide +kernel
theorem dL_law_7 : decode cL_law 7 = .ok (.astore_n 1, 1) := by decide +kernel
theorem dL_law_8 : decode cL_law 8 = .ok (.aload_n 1, 1) := by decide +kernel
theorem dL_law_9 : decode cL_law 9 = .ok (.aload_n 0, 1) := by decide +kernel
theorem dL_law_10 : decode cL_law 10 = .ok (.invokestatic 171, 3) := by decide +kernel
theorem dL_law_13 : decode cL_law 13 = .ok (.iconst 0, 1) := by decide +kernel
theorem dL_law_14 : decode cL_law 14 = .ok (.istore_n 2, 1) := by decide +kernel
theorem dL_law_15 : decode cL_law 15 = .ok (.iload_n 2, 1) := by decide +kernel
theorem dL_law_16 : decode cL_law 16 = .ok (.iconst 5, 1) := by decide +kernel
theorem dL_law_17 : decode cL_law 17 = .ok (.if_icmp .ge 1384, 3) := by decide +kernel
theorem dL_law_20 : decode cL_law 20 = .ok (.aload_n 1, 1) := by decide +kernel
theorem dL_law_21 : decode cL_law 21 = .ok (.iconst 0, 1) := by decide +kernel
theorem dL_law_22 : decode cL_law 22 = .ok (.invokevirtual 143, 3) := by decide +kernel
theorem dL_law_25 : decode cL_law 25 = .ok (.istore_n 3, 1) := by decide +kernel
theorem dL_law_26 : decode cL_law 26 = .ok (.iconst 0, 1) := by decide +kernel
theorem dL_law_27 : decode cL_law 27 = .ok (.istore 4, 2) := by decide +kernel
theorem dL_law_29 : decode cL_law 29 = .ok (.iconst 0, 1) := by decide +kernel
theorem dL_law_30 : decode cL_law 30 = .ok (.istore 5, 2) := by decide +kernel
theorem dL_law_32 : decode cL_law 32 = .ok (.iconst 0, 1) := by decide +kernel
theorem dL_law_33 : decode cL_law 33 = .ok (.istore 6, 2) := by decide +kernel
theorem dL_law_35 : decode cL_law 35 = .ok (.iconst 0, 1) := by decide +kernel
theorem dL_law_36 : decode cL_law 36 = .ok (.istore 7, 2) := by decide +kernel
theorem dL_law_38 : decode cL_law 38 = .ok (.sipush (-2000), 3) := by decide +kernel
theorem dL_law_41 : decode cL_law 41 = .ok (.istore 8, 2) := by decide +kernel
theorem dL_law_43 : decode cL_law 43 = .ok (.iconst 0, 1) := by decide +kernel
theorem dL_law_44 : decode cL_law 44 = .ok (.istore 9, 2) := by decide +kernel
theorem dL_law_46 : decode cL_law 46 = .ok (.iconst 0, 1) := by decide +kernel
theorem dL_law_47 : decode cL_law 47 = .ok (.istore 10, 2) := by decide +kernel
theorem dL_law_49 : decode cL_law 49 = .ok (.iconst 0, 1) := by decide +kernel
theorem dL_law_50 : decode cL_law 50 = .ok (.istore 11, 2) := by decide +kernel
theorem dL_law_52 : decode cL_law 52 = .ok (.iconst 0, 1) := by decide +kernel
theorem dL_law_53 : decode cL_law 53 = .ok (.istore 12, 2) := by decide +kernel
theorem dL_law_55 : decode cL_law 55 = .ok (.iload_n 3, 1) := by decide +kernel
theorem dL_law_56 : decode cL_law 56 = .ok (.anewarray 14, 3) := by decide +kernel
theorem dL_law_59 : decode cL_law 59 = .ok (.astore 13, 2) := by decide +kernel
theorem dL_law_61 : decode cL_law 61 = .ok (.bipush 90, 2) := by decide +kernel
theorem dL_law_63 : decode cL_law 63 = .ok (.anewarray 14, 3) := by decide +kernel
theorem dL_law_66 : decode cL_law 66 = .ok (.astore 14, 2) := by decide +kernel
theorem dL_law_68 : decode cL_law 68 = .ok (.bipush 90, 2) := by decide +kernel
theorem dL_law_70 : decode cL_law 70 = .ok (.newarray .int, 2) := by decide +kernel
theorem dL_law_72 : decode cL_law 72 = .ok (.astore 15, 2) := by decide +kernel
theorem dL_law_74 : decode cL_law 74 = .ok (.iconst 0, 1) := by decide +kernel
theorem dL_law_75 : decode cL_law 75 = .ok (.istore 16, 2) := by decide +kernel
theorem dL_law_77 : decode cL_law 77 = .ok (.iload 16, 2) := by decide +kernel
theorem dL_law_79 : decode cL_law 79 = .ok (.iload_n 3, 1) := by decide +kernel
theorem dL_law_80 : decode cL_law 80 = .ok (.if_icmp .ge 409, 3) := by decide +kernel
theorem dL_law_83 : decode cL_law 83 = .ok (.aload 13, 2) := by decide +kernel
theorem dL_law_85 : decode cL_law 85 = .ok (.iload 16, 2) := by decide +kernel
theorem dL_law_87 : decode cL_law 87 = .ok (.aload_n 1, 1) := by decide +kernel
theorem dL_law_88 : decode cL_law 88 = .ok (.iload 16, 2) := by decide +kernel
theorem dL_law_90 : decode cL_law 90 = .ok (.invokestatic 175, 3) := by decide +kernel
theorem dL_law_93 : decode cL_law 93 = .ok (.aastore, 1) := by decide +kernel
theorem dL_law_94 : decode cL_law 94 = .ok (.aload 13, 2) := by decide +kernel
theorem dL_law_96 : decode cL_law 96 = .ok (.iload 16, 2) := by decide +kernel
theorem dL_law_98 : decode cL_law 98 = .ok (.aaload, 1) := by decide +kernel
theorem dL_law_99 : decode cL_law 99 = .ok (.astore 17, 2) := by decide +kernel
theorem dL_law_101 : decode cL_law 101 = .ok (.iconst 0, 1) := by decide +kernel
theorem dL_law_102 : decode cL_law 102 = .ok (.istore 18, 2) := by decide +kernel
theorem dL_law_104 : decode cL_law 104 = .ok (.iconst 0, 1) := by decide +kernel
theorem dL_law_105 : decode cL_law 105 = .ok (.istore 19, 2) := by decide +kernel
theorem dL_law_107 : decode cL_law 107 = .ok (.iload_n 3, 1) := by decide +kernel
theorem dL_law_108 : decode cL_law 108 = .ok (.istore 20, 2) := by decide +kernel
theorem dL_law_110 : decode cL_law 110 = .ok (.iconst 1, 1) := by decide +kernel
theorem dL_law_111 : decode cL_law 111 = .ok (.istore 21, 2) := by decide +kernel
theorem dL_law_113 : decode cL_law 113 = .ok (.iconst 0, 1) := by decide +kernel
theorem dL_law_114 : decode cL_law 114 = .ok (.istore 22, 2) := by decide +kernel
theorem dL_law_116 : decode cL_law 116 = .ok (.iconst 0, 1) := by decide +kernel
theorem dL_law_117 : decode cL_law 117 = .ok (.istore 23, 2) := by decide +kernel
theorem dL_law_119 : decode cL_law 119 = .ok (.iload 23, 2) := by decide +kernel
theorem dL_law_121 : decode cL_law 121 = .ok (.aload 17, 2) := by decide +kernel
theorem dL_law_123 : decode cL_law 123 = .ok (.invokevirtual 13, 3) := by decide +kernel
theorem dL_law_126 : decode cL_law 126 = .ok (.if_icmp .ge 169, 3) := by decide +kernel
theorem dL_law_129 : decode cL_law 129 = .ok (.iload 11, 2) := by decide +kernel
theorem dL_law_131 : decode cL_law 131 = .ok (.iconst 1, 1) := by decide +kernel
theorem dL_law_132 : decode cL_law 132 = .ok (.aload 17, 2) := by decide +kernel
theorem dL_law_134 : decode cL_law 134 = .ok (.iload 23, 2) := by decide +kernel
theorem dL_law_136 : decode cL_law 136 = .ok (.invokevirtual 19, 3) := by decide +kernel
theorem dL_law_139 : decode cL_law 139 = .ok (.bipush 97, 2) := by decide +kernel
theorem dL_law_141 : decode cL_law 141 = .ok (.isub, 1) := by decide +kernel
theorem dL_law_142 : decode cL_law 142 = .ok (.ishl, 1) := by decide +kernel
theorem dL_law_143 : decode cL_law 143 = .ok (.ior, 1) := by decide +kernel
theorem dL_law_144 : decode cL_law 144 = .ok (.istore 11, 2) := by decide +kernel
theorem dL_law_146 : decode cL_law 146 = .ok (.iload 18, 2) := by decide +kernel
theorem dL_law_148 : decode cL_law 148 = .ok (.iconst 1, 1) := by decide +kernel
theorem dL_law_149 : decode cL_law 149 = .ok (.aload 17, 2) := by decide +kernel
theorem dL_law_151 : decode cL_law 151 = .ok (.iload 23, 2) := by decide +kernel
theorem dL_law_153 : decode cL_law 153 = .ok (.invokevirtual 19, 3) := by decide +kernel
theorem dL_law_156 : decode cL_law 156 = .ok (.bipush 97, 2) := by decide +kernel
theorem dL_law_158 : decode cL_law 158 = .ok (.isub, 1) := by decide +kernel
theorem dL_law_159 : decode cL_law 159 = .ok (.ishl, 1) := by decide +kernel
theorem dL_law_160 : decode cL_law 160 = .ok (.ior, 1) := by decide +kernel
theorem dL_law_161 : decode cL_law 161 = .ok (.istore 18, 2) := by decide +kernel
theorem dL_law_163 : decode cL_law 163 = .ok (.iconst 0, 1) := by decide +kernel
theorem dL_law_164 : decode cL_law 164 = .ok (.istore 24, 2) := by decide +kernel
theorem dL_law_166 : decode cL_law 166 = .ok (.iload 24, 2) := by decide +kernel
theorem dL_law_168 : decode cL_law 168 = .ok (.iload 23, 2) := by decide +kernel
theorem dL_law_170 : decode cL_law 170 = .ok (.if_icmp .ge 33, 3) := by decide +kernel
theorem dL_law_173 : decode cL_law 173 = .ok (.iload 22, 2) := by decide +kernel
theorem dL_law_175 : decode cL_law 175 = .ok (.aload 17, 2) := by decide +kernel
theorem dL_law_177 : decode cL_law 177 = .ok (.iload 24, 2) := by decide +kernel
theorem dL_law_179 : decode cL_law 179 = .ok (.invokevirtual 179, 3) := by decide +kernel
theorem dL_law_182 : decode cL_law 182 = .ok (.aload 17, 2) := by decide +kernel
theorem dL_law_184 : decode cL_law 184 = .ok (.iload 23, 2) := by decide +kernel
theorem dL_law_186 : decode cL_law 186 = .ok (.invokevirtual 179, 3) := by decide +kernel
theorem dL_law_189 : decode cL_law 189 = .ok (.invokestatic 128, 3) := by decide +kernel
theorem dL_law_192 : decode cL_law 192 = .ok (.invokestatic 146, 3) := by decide +kernel
theorem dL_law_195 : decode cL_law 195 = .ok (.istore 22, 2) := by decide +kernel
theorem dL_law_197 : decode cL_law 197 = .ok (.iinc 24 1, 3) := by decide +kernel
theorem dL_law_200 : decode cL_law 200 = .ok (.goto (-34), 3) := by decide +kernel
theorem dL_law_203 : decode cL_law 203 = .ok (.aload 17, 2) := by decide +kernel
theorem dL_law_205 : decode cL_law 205 = .ok (.iload 23, 2) := by decide +kernel
theorem dL_law_207 : decode cL_law 207 = .ok (.invokevirtual 179, 3) := by decide +kernel
theorem dL_law_210 : decode cL_law 210 = .ok (.astore 24, 2) := by decide +kernel
theorem dL_law_212 : decode cL_law 212 = .ok (.iload 4, 2) := by decide +kernel
theorem dL_law_214 : decode cL_law 214 = .ok (.istore 25, 2) := by decide +kernel
theorem dL_law_216 : decode cL_law 216 = .ok (.iload 25, 2) := by decide +kernel
theorem dL_law_218 : decode cL_law 218 = .ok (.ifCond .le 48, 3) := by decide +kernel
theorem dL_law_221 : decode cL_law 221 = .ok (.aload 24, 2) := by decide +kernel
theorem dL_law_223 : decode cL_law 223 = .ok (.aload 14, 2) := by decide +kernel
theorem dL_law_225 : decode cL_law 225 = .ok (.iload 25, 2) := by decide +kernel
theorem dL_law_227 : decode cL_law 227 = .ok (.iconst 1, 1) := by decide +kernel
theorem dL_law_228 : decode cL_law 228 = .ok (.isub, 1) := by decide +kernel
theorem dL_law_229 : decode cL_law 229 = .ok (.aaload, 1) := by decide +kernel
theorem dL_law_230 : decode cL_law 230 = .ok (.invokestatic 183, 3) := by decide +kernel
theorem dL_law_233 : decode cL_law 233 = .ok (.ifCond .ge 33, 3) := by decide +kernel
theorem dL_law_236 : decode cL_law 236 = .ok (.aload 14, 2) := by decide +kernel
theorem dL_law_238 : decode cL_law 238 = .ok (.iload 25, 2) := by decide +kernel
theorem dL_law_240 : decode cL_law 240 = .ok (.aload 14, 2) := by decide +kernel
theorem dL_law_242 : decode cL_law 242 = .ok (.iload 25, 2) := by decide +kernel
theorem dL_law_244 : decode cL_law 244 = .ok (.iconst 1, 1) := by decide +kernel
theorem dL_law_245 : decode cL_law 245 = .ok (.isub, 1) := by decide +kernel
theorem dL_law_246 : decode cL_law 246 = .ok (.aaload, 1) := by decide +kernel
theorem dL_law_247 : decode cL_law 247 = .ok (.aastore, 1) := by decide +kernel
theorem dL_law_248 : decode cL_law 248 = .ok (.aload 15, 2) := by decide +kernel
theorem dL_law_250 : decode cL_law 250 = .ok (.iload 25, 2) := by decide +kernel
theorem dL_law_252 : decode cL_law 252 = .ok (.aload 15, 2) := by decide +kernel
theorem dL_law_254 : decode cL_law 254 = .ok (.iload 25, 2) := by decide +kernel
theorem dL_law_256 : decode cL_law 256 = .ok (.iconst 1, 1) := by decide +kernel
theorem dL_law_257 : decode cL_law 257 = .ok (.isub, 1) := by decide +kernel
theorem dL_law_258 : decode cL_law 258 = .ok (.iaload, 1) := by decide +kernel
theorem dL_law_259 : decode cL_law 259 = .ok (.iastore, 1) := by decide +kernel
theorem dL_law_260 : decode cL_law 260 = .ok (.iinc 25 (-1), 3) := by decide +kernel
theorem dL_law_263 : decode cL_law 263 = .ok (.goto (-47), 3) := by decide +kernel
theorem dL_law_266 : decode cL_law 266 = .ok (.aload 14, 2) := by decide +kernel
theorem dL_law_268 : decode cL_law 268 = .ok (.iload 25, 2) := by decide +kernel
theorem dL_law_270 : decode cL_law 270 = .ok (.aload 24, 2) := by decide +kernel
theorem dL_law_272 : decode cL_law 272 = .ok (.aastore, 1) := by decide +kernel
theorem dL_law_273 : decode cL_law 273 = .ok (.aload 15, 2) := by decide +kernel
theorem dL_law_275 : decode cL_law 275 = .ok (.iload 25, 2) := by decide +kernel
theorem dL_law_277 : decode cL_law 277 = .ok (.bipush 10, 2) := by decide +kernel
theorem dL_law_279 : decode cL_law 279 = .ok (.iload 16, 2) := by decide +kernel
theorem dL_law_281 : decode cL_law 281 = .ok (.imul, 1) := by decide +kernel
theorem dL_law_282 : decode cL_law 282 = .ok (.iload 23, 2) := by decide +kernel
theorem dL_law_284 : decode cL_law 284 = .ok (.iadd, 1) := by decide +kernel
theorem dL_law_285 : decode cL_law 285 = .ok (.iastore, 1) := by decide +kernel
theorem dL_law_286 : decode cL_law 286 = .ok (.iinc 4 1, 3) := by decide +kernel
theorem dL_law_289 : decode cL_law 289 = .ok (.iinc 23 1, 3) := by decide +kernel
theorem dL_law_292 : decode cL_law 292 = .ok (.goto (-173), 3) := by decide +kernel
theorem dL_law_295 : decode cL_law 295 = .ok (.iload_n 3, 1) := by decide +kernel
theorem dL_law_296 : decode cL_law 296 = .ok (.iconst 1, 1) := by decide +kernel
theorem dL_law_297 : decode cL_law 297 = .ok (.isub, 1) := by decide +kernel
theorem dL_law_298 : decode cL_law 298 = .ok (.istore 23, 2) := by decide +kernel
theorem dL_law_300 : decode cL_law 300 = .ok (.iload 23, 2) := by decide +kernel
theorem dL_law_302 : decode cL_law 302 = .ok (.ifCond .lt 30, 3) := by decide +kernel
theorem dL_law_305 : decode cL_law 305 = .ok (.aload_n 1, 1) := by decide +kernel
theorem dL_law_306 : decode cL_law 306 = .ok (.iload 23, 2) := by decide +kernel
theorem dL_law_308 : decode cL_law 308 = .ok (.invokestatic 175, 3) := by decide +kernel
theorem dL_law_311 : decode cL_law 311 = .ok (.aload 17, 2) := by decide +kernel
theorem dL_law_313 : decode cL_law 313 = .ok (.invokestatic 183, 3) := by decide +kernel
theorem dL_law_316 : decode cL_law 316 = .ok (.ifCond .ne 10, 3) := by decide +kernel
theorem dL_law_319 : decode cL_law 319 = .ok (.iinc 19 1, 3) := by decide +kernel
theorem dL_law_322 : decode cL_law 322 = .ok (.iload 23, 2) := by decide +kernel
theorem dL_law_324 : decode cL_law 324 = .ok (.istore 20, 2) := by decide +kernel
theorem dL_law_326 : decode cL_law 326 = .ok (.iinc 23 (-1), 3) := by decide +kernel
theorem dL_law_329 : decode cL_law 329 = .ok (.goto (-29), 3) := by decide +kernel
theorem dL_law_332 : decode cL_law 332 = .ok (.iload 21, 2) := by decide +kernel
theorem dL_law_334 : decode cL_law 334 = .ok (.aload 17, 2) := by decide +kernel
theorem dL_law_336 : decode cL_law 336 = .ok (.invokevirtual 13, 3) := by decide +kernel
theorem dL_law_339 : decode cL_law 339 = .ok (.if_icmp .ge 32, 3) := by decide +kernel
theorem dL_law_342 : decode cL_law 342 = .ok (.aload 17, 2) := by decide +kernel
theorem dL_law_344 : decode cL_law 344 = .ok (.iload 21, 2) := by decide +kernel
theorem dL_law_346 : decode cL_law 346 = .ok (.invokevirtual 179, 3) := by decide +kernel
theorem dL_law_349 : decode cL_law 349 = .ok (.aload 17, 2) := by decide +kernel
theorem dL_law_351 : decode cL_law 351 = .ok (.invokestatic 128, 3) := by decide +kernel
theorem dL_law_354 : decode cL_law 354 = .ok (.aload 17, 2) := by decide +kernel
theorem dL_law_356 : decode cL_law 356 = .ok (.invokevirtual 13, 3) := by decide +kernel
theorem dL_law_359 : decode cL_law 359 = .ok (.iload 21, 2) := by decide +kernel
theorem dL_law_361 : decode cL_law 361 = .ok (.isub, 1) := by decide +kernel
theorem dL_law_362 : decode cL_law 362 = .ok (.if_icmp .ge 9, 3) := by decide +kernel
theorem dL_law_365 : decode cL_law 365 = .ok (.iinc 21 1, 3) := by decide +kernel
theorem dL_law_368 : decode cL_law 368 = .ok (.goto (-36), 3) := by decide +kernel
theorem dL_law_371 : decode cL_law 371 = .ok (.iload 9, 2) := by decide +kernel
theorem dL_law_373 : decode cL_law 373 = .ok (.iload 20, 2) := by decide +kernel
theorem dL_law_375 : decode cL_law 375 = .ok (.iload 16, 2) := by decide +kernel
theorem dL_law_377 : decode cL_law 377 = .ok (.if_icmp .ne 7, 3) := by decide +kernel
theorem dL_law_380 : decode cL_law 380 = .ok (.iconst 1, 1) := by decide +kernel
theorem dL_law_381 : decode cL_law 381 = .ok (.goto 4, 3) := by decide +kernel
theorem dL_law_384 : decode cL_law 384 = .ok (.iconst 0, 1) := by decide +kernel
theorem dL_law_385 : decode cL_law 385 = .ok (.iadd, 1) := by decide +kernel
theorem dL_law_386 : decode cL_law 386 = .ok (.istore 9, 2) := by decide +kernel
theorem dL_law_388 : decode cL_law 388 = .ok (.iload 10, 2) := by decide +kernel
theorem dL_law_390 : decode cL_law 390 = .ok (.aload 17, 2) := by decide +kernel
theorem dL_law_392 : decode cL_law 392 = .ok (.invokestatic 186, 3) := by decide +kernel
theorem dL_law_395 : decode cL_law 395 = .ok (.aload 17, 2) := by decide +kernel
theorem dL_law_397 : decode cL_law 397 = .ok (.invokestatic 183, 3) := by decide +kernel
theorem dL_law_400 : decode cL_law 400 = .ok (.ifCond .ne 7, 3) := by decide +kernel
theorem dL_law_403 : decode cL_law 403 = .ok (.iconst 1, 1) := by decide +kernel
theorem dL_law_404 : decode cL_law 404 = .ok (.goto 4, 3) := by decide +kernel
theorem dL_law_407 : decode cL_law 407 = .ok (.iconst 0, 1) := by decide +kernel
theorem dL_law_408 : decode cL_law 408 = .ok (.iadd, 1) := by decide +kernel
theorem dL_law_409 : decode cL_law 409 = .ok (.istore 10, 2) := by decide +kernel
theorem dL_law_411 : decode cL_law 411 = .ok (.aload 17, 2) := by decide +kernel
theorem dL_law_413 : decode cL_law 413 = .ok (.invokevirtual 13, 3) := by decide +kernel
theorem dL_law_416 : decode cL_law 416 = .ok (.iconst 1, 1) := by decide +kernel
theorem dL_law_417 : decode cL_law 417 = .ok (.if_icmp .lt 64, 3) := by decide +kernel
theorem dL_law_420 : decode cL_law 420 = .ok (.aload 17, 2) := by decide +kernel
theorem dL_law_422 : decode cL_law 422 = .ok (.invokevirtual 13, 3) := by decide +kernel
theorem dL_law_425 : decode cL_law 425 = .ok (.bipush 10, 2) := by decide +kernel
theorem dL_law_427 : decode cL_law 427 = .ok (.if_icmp .gt 54, 3) := by decide +kernel
theorem dL_law_430 : decode cL_law 430 = .ok (.aload_n 1, 1) := by decide +kernel
theorem dL_law_431 : decode cL_law 431 = .ok (.iload 16, 2) := by decide +kernel
theorem dL_law_433 : decode cL_law 433 = .ok (.iconst 1, 1) := by decide +kernel
theorem dL_law_434 : decode cL_law 434 = .ok (.invokevirtual 102, 3) := by decide +kernel
theorem dL_law_437 : decode cL_law 437 = .ok (.iload 18, 2) := by decide +kernel
theorem dL_law_439 : decode cL_law 439 = .ok (.invokestatic 190, 3) := by decide +kernel
theorem dL_law_442 : decode cL_law 442 = .ok (.if_icmp .ne 39, 3) := by decide +kernel
theorem dL_law_445 : decode cL_law 445 = .ok (.aload_n 1, 1) := by decide +kernel
theorem dL_law_446 : decode cL_law 446 = .ok (.iload 16, 2) := by decide +kernel
theorem dL_law_448 : decode cL_law 448 = .ok (.iconst 2, 1) := by decide +kernel
theorem dL_law_449 : decode cL_law 449 = .ok (.invokevirtual 102, 3) := by decide +kernel
theorem dL_law_452 : decode cL_law 452 = .ok (.iload 19, 2) := by decide +kernel
theorem dL_law_454 : decode cL_law 454 = .ok (.if_icmp .ne 27, 3) := by decide +kernel
theorem dL_law_457 : decode cL_law 457 = .ok (.aload_n 1, 1) := by decide +kernel
theorem dL_law_458 : decode cL_law 458 = .ok (.iload 16, 2) := by decide +kernel
theorem dL_law_460 : decode cL_law 460 = .ok (.iconst 3, 1) := by decide +kernel
theorem dL_law_461 : decode cL_law 461 = .ok (.invokevirtual 102, 3) := by decide +kernel
theorem dL_law_464 : decode cL_law 464 = .ok (.iload 21, 2) := by decide +kernel
theorem dL_law_466 : decode cL_law 466 = .ok (.if_icmp .ne 15, 3) := by decide +kernel
theorem dL_law_469 : decode cL_law 469 = .ok (.aload_n 1, 1) := by decide +kernel
theorem dL_law_470 : decode cL_law 470 = .ok (.iload 16, 2) := by decide +kernel
theorem dL_law_472 : decode cL_law 472 = .ok (.iconst 4, 1) := by decide +kernel
theorem dL_law_473 : decode cL_law 473 = .ok (.invokevirtual 102, 3) := by decide +kernel
theorem dL_law_476 : decode cL_law 476 = .ok (.iload 22, 2) := by decide +kernel
theorem dL_law_478 : decode cL_law 478 = .ok (.if_icmp .eq 5, 3) := by decide +kernel
theorem dL_law_481 : decode cL_law 481 = .ok (.iconst 0, 1) := by decide +kernel
theorem dL_law_482 : decode cL_law 482 = .ok (.ireturn, 1) := by decide +kernel
theorem dL_law_483 : decode cL_law 483 = .ok (.iinc 16 1, 3) := by decide +kernel
theorem dL_law_486 : decode cL_law 486 = .ok (.goto (-409), 3) := by decide +kernel
theorem dL_law_489 : decode cL_law 489 = .ok (.iconst 0, 1) := by decide +kernel
theorem dL_law_490 : decode cL_law 490 = .ok (.istore 16, 2) := by decide +kernel
theorem dL_law_492 : decode cL_law 492 = .ok (.iload 16, 2) := by decide +kernel
theorem dL_law_494 : decode cL_law 494 = .ok (.iload_n 3, 1) := by decide +kernel
theorem dL_law_495 : decode cL_law 495 = .ok (.if_icmp .ge 393, 3) := by decide +kernel
theorem dL_law_498 : decode cL_law 498 = .ok (.sipush (-2000), 3) := by decide +kernel
theorem dL_law_501 : decode cL_law 501 = .ok (.istore 17, 2) := by decide +kernel
theorem dL_law_503 : decode cL_law 503 = .ok (.sipush (-2000), 3) := by decide +kernel
theorem dL_law_506 : decode cL_law 506 = .ok (.istore 18, 2) := by decide +kernel
theorem dL_law_508 : decode cL_law 508 = .ok (.iconst 1, 1) := by decide +kernel
theorem dL_law_509 : decode cL_law 509 = .ok (.istore 19, 2) := by decide +kernel
theorem dL_law_511 : decode cL_law 511 = .ok (.iload 19, 2) := by decide +kernel
theorem dL_law_513 : decode cL_law 513 = .ok (.aload 13, 2) := by decide +kernel
theorem dL_law_515 : decode cL_law 515 = .ok (.iload 16, 2) := by decide +kernel
theorem dL_law_517 : decode cL_law 517 = .ok (.aaload, 1) := by decide +kernel
theorem dL_law_518 : decode cL_law 518 = .ok (.invokevirtual 13, 3) := by decide +kernel
theorem dL_law_521 : decode cL_law 521 = .ok (.if_icmp .gt 127, 3) := by decide +kernel
theorem dL_law_524 : decode cL_law 524 = .ok (.iload 17, 2) := by decide +kernel
theorem dL_law_526 : decode cL_law 526 = .ok (.sipush (-2000), 3) := by decide +kernel
theorem dL_law_529 : decode cL_law 529 = .ok (.if_icmp .ne 119, 3) := by decide +kernel
theorem dL_law_532 : decode cL_law 532 = .ok (.iconst 0, 1) := by decide +kernel
theorem dL_law_533 : decode cL_law 533 = .ok (.istore 20, 2) := by decide +kernel
theorem dL_law_535 : decode cL_law 535 = .ok (.iload 20, 2) := by decide +kernel
theorem dL_law_537 : decode cL_law 537 = .ok (.iload 19, 2) := by decide +kernel
theorem dL_law_539 : decode cL_law 539 = .ok (.iadd, 1) := by decide +kernel
theorem dL_law_540 : decode cL_law 540 = .ok (.aload 13, 2) := by decide +kernel
theorem dL_law_542 : decode cL_law 542 = .ok (.iload 16, 2) := by decide +kernel
theorem dL_law_544 : decode cL_law 544 = .ok (.aaload, 1) := by decide +kernel
theorem dL_law_545 : decode cL_law 545 = .ok (.invokevirtual 13, 3) := by decide +kernel
theorem dL_law_548 : decode cL_law 548 = .ok (.if_icmp .gt 94, 3) := by decide +kernel
theorem dL_law_551 : decode cL_law 551 = .ok (.iload 17, 2) := by decide +kernel
theorem dL_law_553 : decode cL_law 553 = .ok (.sipush (-2000), 3) := by decide +kernel
theorem dL_law_556 : decode cL_law 556 = .ok (.if_icmp .ne 86, 3) := by decide +kernel
theorem dL_law_559 : decode cL_law 559 = .ok (.iconst 1, 1) := by decide +kernel
theorem dL_law_560 : decode cL_law 560 = .ok (.istore 21, 2) := by decide +kernel
theorem dL_law_562 : decode cL_law 562 = .ok (.iconst 0, 1) := by decide +kernel
theorem dL_law_563 : decode cL_law 563 = .ok (.istore 22, 2) := by decide +kernel
theorem dL_law_565 : decode cL_law 565 = .ok (.iload 22, 2) := by decide +kernel
theorem dL_law_567 : decode cL_law 567 = .ok (.iload_n 3, 1) := by decide +kernel
theorem dL_law_568 : decode cL_law 568 = .ok (.if_icmp .ge 52, 3) := by decide +kernel
theorem dL_law_571 : decode cL_law 571 = .ok (.iload 21, 2) := by decide +kernel
theorem dL_law_573 : decode cL_law 573 = .ok (.iload 22, 2) := by decide +kernel
theorem dL_law_575 : decode cL_law 575 = .ok (.iload 16, 2) := by decide +kernel
theorem dL_law_577 : decode cL_law 577 = .ok (.if_icmp .eq 29, 3) := by decide +kernel
theorem dL_law_580 : decode cL_law 580 = .ok (.aload 13, 2) := by decide +kernel
theorem dL_law_582 : decode cL_law 582 = .ok (.iload 22, 2) := by decide +kernel
theorem dL_law_584 : decode cL_law 584 = .ok (.aaload, 1) := by decide +kernel
theorem dL_law_585 : decode cL_law 585 = .ok (.aload 13, 2) := by decide +kernel
theorem dL_law_587 : decode cL_law 587 = .ok (.iload 16, 2) := by decide +kernel
theorem dL_law_589 : decode cL_law 589 = .ok (.aaload, 1) := by decide +kernel
theorem dL_law_590 : decode cL_law 590 = .ok (.iload 20, 2) := by decide +kernel
theorem dL_law_592 : decode cL_law 592 = .ok (.iload 20, 2) := by decide +kernel
theorem dL_law_594 : decode cL_law 594 = .ok (.iload 19, 2) := by decide +kernel
theorem dL_law_596 : decode cL_law 596 = .ok (.iadd, 1) := by decide +kernel
theorem dL_law_597 : decode cL_law 597 = .ok (.invokevirtual 195, 3) := by decide +kernel
theorem dL_law_600 : decode cL_law 600 = .ok (.invokevirtual 198, 3) := by decide +kernel
theorem dL_law_603 : decode cL_law 603 = .ok (.ifCond .ge 7, 3) := by decide +kernel
theorem dL_law_606 : decode cL_law 606 = .ok (.iconst 1, 1) := by decide +kernel
theorem dL_law_607 : decode cL_law 607 = .ok (.goto 4, 3) := by decide +kernel
theorem dL_law_610 : decode cL_law 610 = .ok (.iconst 0, 1) := by decide +kernel
theorem dL_law_611 : decode cL_law 611 = .ok (.iand, 1) := by decide +kernel
theorem dL_law_612 : decode cL_law 612 = .ok (.istore 21, 2) := by decide +kernel
theorem dL_law_614 : decode cL_law 614 = .ok (.iinc 22 1, 3) := by decide +kernel
theorem dL_law_617 : decode cL_law 617 = .ok (.goto (-52), 3) := by decide +kernel
theorem dL_law_620 : decode cL_law 620 = .ok (.iload 21, 2) := by decide +kernel
theorem dL_law_622 : decode cL_law 622 = .ok (.ifCond .ne 6, 3) := by decide +kernel
theorem dL_law_625 : decode cL_law 625 = .ok (.goto 11, 3) := by decide +kernel
theorem dL_law_628 : decode cL_law 628 = .ok (.iload 19, 2) := by decide +kernel
theorem dL_law_630 : decode cL_law 630 = .ok (.istore 17, 2) := by decide +kernel
theorem dL_law_632 : decode cL_law 632 = .ok (.iload 20, 2) := by decide +kernel
theorem dL_law_634 : decode cL_law 634 = .ok (.istore 18, 2) := by decide +kernel
theorem dL_law_636 : decode cL_law 636 = .ok (.iinc 20 1, 3) := by decide +kernel
theorem dL_law_639 : decode cL_law 639 = .ok (.goto (-104), 3) := by decide +kernel
theorem dL_law_642 : decode cL_law 642 = .ok (.iinc 19 1, 3) := by decide +kernel
theorem dL_law_645 : decode cL_law 645 = .ok (.goto (-134), 3) := by decide +kernel
theorem dL_law_648 : decode cL_law 648 = .ok (.aload_n 1, 1) := by decide +kernel
theorem dL_law_649 : decode cL_law 649 = .ok (.iload 16, 2) := by decide +kernel
theorem dL_law_651 : decode cL_law 651 = .ok (.invokestatic 202, 3) := by decide +kernel
theorem dL_law_654 : decode cL_law 654 = .ok (.iload 17, 2) := by decide +kernel
theorem dL_law_656 : decode cL_law 656 = .ok (.if_icmp .ne 14, 3) := by decide +kernel
theorem dL_law_659 : decode cL_law 659 = .ok (.aload_n 1, 1) := by decide +kernel
theorem dL_law_660 : decode cL_law 660 = .ok (.iload 16, 2) := by decide +kernel
theorem dL_law_662 : decode cL_law 662 = .ok (.invokestatic 204, 3) := by decide +kernel
theorem dL_law_665 : decode cL_law 665 = .ok (.iload 18, 2) := by decide +kernel
theorem dL_law_667 : decode cL_law 667 = .ok (.if_icmp .eq 5, 3) := by decide +kernel
theorem dL_law_670 : decode cL_law 670 = .ok (.iconst 0, 1) := by decide +kernel
theorem dL_law_671 : decode cL_law 671 = .ok (.ireturn, 1) := by decide +kernel
theorem dL_law_672 : decode cL_law 672 = .ok (.iconst 0, 1) := by decide +kernel
theorem dL_law_673 : decode cL_law 673 = .ok (.istore 19, 2) := by decide +kernel
theorem dL_law_675 : decode cL_law 675 = .ok (.iload 19, 2) := by decide +kernel
theorem dL_law_677 : decode cL_law 677 = .ok (.iload_n 3, 1) := by decide +kernel
theorem dL_law_678 : decode cL_law 678 = .ok (.if_icmp .ge 204, 3) := by decide +kernel
theorem dL_law_681 : decode cL_law 681 = .ok (.iload 19, 2) := by decide +kernel
theorem dL_law_683 : decode cL_law 683 = .ok (.iload 16, 2) := by decide +kernel
theorem dL_law_685 : decode cL_law 685 = .ok (.if_icmp .ne 14, 3) := by decide +kernel
theorem dL_law_688 : decode cL_law 688 = .ok (.aload 13, 2) := by decide +kernel
theorem dL_law_690 : decode cL_law 690 = .ok (.iload 16, 2) := by decide +kernel
theorem dL_law_692 : decode cL_law 692 = .ok (.aaload, 1) := by decide +kernel
theorem dL_law_693 : decode cL_law 693 = .ok (.invokevirtual 13, 3) := by decide +kernel
theorem dL_law_696 : decode cL_law 696 = .ok (.goto 4, 3) := by decide +kernel
theorem dL_law_699 : decode cL_law 699 = .ok (.iconst 0, 1) := by decide +kernel
theorem dL_law_700 : decode cL_law 700 = .ok (.istore 20, 2) := by decide +kernel
theorem dL_law_702 : decode cL_law 702 = .ok (.iconst 0, 1) := by decide +kernel
theorem dL_law_703 : decode cL_law 703 = .ok (.istore 21, 2) := by decide +kernel
theorem dL_law_705 : decode cL_law 705 = .ok (.iload 21, 2) := by decide +kernel
theorem dL_law_707 : decode cL_law 707 = .ok (.aload 13, 2) := by decide +kernel
theorem dL_law_709 : decode cL_law 709 = .ok (.iload 16, 2) := by decide +kernel
theorem dL_law_711 : decode cL_law 711 = .ok (.aaload, 1) := by decide +kernel
theorem dL_law_712 : decode cL_law 712 = .ok (.invokevirtual 13, 3) := by decide +kernel
theorem dL_law_715 : decode cL_law 715 = .ok (.if_icmp .ge 61, 3) := by decide +kernel
theorem dL_law_718 : decode cL_law 718 = .ok (.iconst 0, 1) := by decide +kernel
theorem dL_law_719 : decode cL_law 719 = .ok (.istore 22, 2) := by decide +kernel
theorem dL_law_721 : decode cL_law 721 = .ok (.iload 22, 2) := by decide +kernel
theorem dL_law_723 : decode cL_law 723 = .ok (.aload 13, 2) := by decide +kernel
theorem dL_law_725 : decode cL_law 725 = .ok (.iload 19, 2) := by decide +kernel
theorem dL_law_727 : decode cL_law 727 = .ok (.aaload, 1) := by decide +kernel
theorem dL_law_728 : decode cL_law 728 = .ok (.invokevirtual 13, 3) := by decide +kernel
theorem dL_law_731 : decode cL_law 731 = .ok (.if_icmp .ge 39, 3) := by decide +kernel
theorem dL_law_734 : decode cL_law 734 = .ok (.iload 20, 2) := by decide +kernel
theorem dL_law_736 : decode cL_law 736 = .ok (.aload 13, 2) := by decide +kernel
theorem dL_law_738 : decode cL_law 738 = .ok (.iload 16, 2) := by decide +kernel
theorem dL_law_740 : decode cL_law 740 = .ok (.aaload, 1) := by decide +kernel
theorem dL_law_741 : decode cL_law 741 = .ok (.iload 21, 2) := by decide +kernel
theorem dL_law_743 : decode cL_law 743 = .ok (.invokevirtual 179, 3) := by decide +kernel
theorem dL_law_746 : decode cL_law 746 = .ok (.aload 13, 2) := by decide +kernel
theorem dL_law_748 : decode cL_law 748 = .ok (.iload 19, 2) := by decide +kernel
theorem dL_law_750 : decode cL_law 750 = .ok (.aaload, 1) := by decide +kernel
theorem dL_law_751 : decode cL_law 751 = .ok (.iload 22, 2) := by decide +kernel
theorem dL_law_753 : decode cL_law 753 = .ok (.invokevirtual 179, 3) := by decide +kernel
theorem dL_law_756 : decode cL_law 756 = .ok (.invokestatic 128, 3) := by decide +kernel
theorem dL_law_759 : decode cL_law 759 = .ok (.invokestatic 146, 3) := by decide +kernel
theorem dL_law_762 : decode cL_law 762 = .ok (.istore 20, 2) := by decide +kernel
theorem dL_law_764 : decode cL_law 764 = .ok (.iinc 22 1, 3) := by decide +kernel
theorem dL_law_767 : decode cL_law 767 = .ok (.goto (-46), 3) := by decide +kernel
theorem dL_law_770 : decode cL_law 770 = .ok (.iinc 21 1, 3) := by decide +kernel
theorem dL_law_773 : decode cL_law 773 = .ok (.goto (-68), 3) := by decide +kernel
theorem dL_law_776 : decode cL_law 776 = .ok (.aload_n 1, 1) := by decide +kernel
theorem dL_law_777 : decode cL_law 777 = .ok (.iload 16, 2) := by decide +kernel
theorem dL_law_779 : decode cL_law 779 = .ok (.iload 19, 2) := by decide +kernel
theorem dL_law_781 : decode cL_law 781 = .ok (.invokevirtual 206, 3) := by decide +kernel
theorem dL_law_784 : decode cL_law 784 = .ok (.iload 20, 2) := by decide +kernel
theorem dL_law_786 : decode cL_law 786 = .ok (.if_icmp .ne 38, 3) := by decide +kernel
theorem dL_law_789 : decode cL_law 789 = .ok (.aload_n 1, 1) := by decide +kernel
theorem dL_law_790 : decode cL_law 790 = .ok (.iload 16, 2) := by decide +kernel
theorem dL_law_792 : decode cL_law 792 = .ok (.iload 19, 2) := by decide +kernel
theorem dL_law_794 : decode cL_law 794 = .ok (.invokevirtual 209, 3) := by decide +kernel
theorem dL_law_797 : decode cL_law 797 = .ok (.aload 13, 2) := by decide +kernel
theorem dL_law_799 : decode cL_law 799 = .ok (.iload 16, 2) := by decide +kernel
theorem dL_law_801 : decode cL_law 801 = .ok (.aaload, 1) := by decide +kernel
theorem dL_law_802 : decode cL_law 802 = .ok (.aload 13, 2) := by decide +kernel
theorem dL_law_804 : decode cL_law 804 = .ok (.iload 19, 2) := by decide +kernel
theorem dL_law_806 : decode cL_law 806 = .ok (.aaload, 1) := by decide +kernel
theorem dL_law_807 : decode cL_law 807 = .ok (.invokestatic 186, 3) := by decide +kernel
theorem dL_law_810 : decode cL_law 810 = .ok (.invokestatic 183, 3) := by decide +kernel
theorem dL_law_813 : decode cL_law 813 = .ok (.ifCond .ne 7, 3) := by decide +kernel
theorem dL_law_816 : decode cL_law 816 = .ok (.iconst 1, 1) := by decide +kernel
theorem dL_law_817 : decode cL_law 817 = .ok (.goto 4, 3) := by decide +kernel
theorem dL_law_820 : decode cL_law 820 = .ok (.iconst 0, 1) := by decide +kernel
theorem dL_law_821 : decode cL_law 821 = .ok (.if_icmp .eq 5, 3) := by decide +kernel
theorem dL_law_824 : decode cL_law 824 = .ok (.iconst 0, 1) := by decide +kernel
theorem dL_law_825 : decode cL_law 825 = .ok (.ireturn, 1) := by decide +kernel
theorem dL_law_826 : decode cL_law 826 = .ok (.aload_n 1, 1) := by decide +kernel
theorem dL_law_827 : decode cL_law 827 = .ok (.iload 16, 2) := by decide +kernel
theorem dL_law_829 : decode cL_law 829 = .ok (.iconst 0, 1) := by decide +kernel
theorem dL_law_830 : decode cL_law 830 = .ok (.iload 19, 2) := by decide +kernel
theorem dL_law_832 : decode cL_law 832 = .ok (.aload 13, 2) := by decide +kernel
theorem dL_law_834 : decode cL_law 834 = .ok (.iload 19, 2) := by decide +kernel
theorem dL_law_836 : decode cL_law 836 = .ok (.aaload, 1) := by decide +kernel
theorem dL_law_837 : decode cL_law 837 = .ok (.invokevirtual 13, 3) := by decide +kernel
theorem dL_law_840 : decode cL_law 840 = .ok (.iconst 1, 1) := by decide +kernel
theorem dL_law_841 : decode cL_law 841 = .ok (.isub, 1) := by decide +kernel
theorem dL_law_842 : decode cL_law 842 = .ok (.invokevirtual 213, 3) := by decide +kernel
theorem dL_law_845 : decode cL_law 845 = .ok (.aload 13, 2) := by decide +kernel
theorem dL_law_847 : decode cL_law 847 = .ok (.iload 16, 2) := by decide +kernel
theorem dL_law_849 : decode cL_law 849 = .ok (.aaload, 1) := by decide +kernel
theorem dL_law_850 : decode cL_law 850 = .ok (.aload 13, 2) := by decide +kernel
theorem dL_law_852 : decode cL_law 852 = .ok (.iload 19, 2) := by decide +kernel
theorem dL_law_854 : decode cL_law 854 = .ok (.aaload, 1) := by decide +kernel
theorem dL_law_855 : decode cL_law 855 = .ok (.aload 13, 2) := by decide +kernel
theorem dL_law_857 : decode cL_law 857 = .ok (.iload 19, 2) := by decide +kernel
theorem dL_law_859 : decode cL_law 859 = .ok (.aaload, 1) := by decide +kernel
theorem dL_law_860 : decode cL_law 860 = .ok (.invokevirtual 13, 3) := by decide +kernel
theorem dL_law_863 : decode cL_law 863 = .ok (.iconst 1, 1) := by decide +kernel
theorem dL_law_864 : decode cL_law 864 = .ok (.isub, 1) := by decide +kernel
theorem dL_law_865 : decode cL_law 865 = .ok (.invokevirtual 179, 3) := by decide +kernel
theorem dL_law_868 : decode cL_law 868 = .ok (.invokestatic 128, 3) := by decide +kernel
theorem dL_law_871 : decode cL_law 871 = .ok (.if_icmp .eq 5, 3) := by decide +kernel
theorem dL_law_874 : decode cL_law 874 = .ok (.iconst 0, 1) := by decide +kernel
theorem dL_law_875 : decode cL_law 875 = .ok (.ireturn, 1) := by decide +kernel
theorem dL_law_876 : decode cL_law 876 = .ok (.iinc 19 1, 3) := by decide +kernel
theorem dL_law_879 : decode cL_law 879 = .ok (.goto (-204), 3) := by decide +kernel
theorem dL_law_882 : decode cL_law 882 = .ok (.iinc 16 1, 3) := by decide +kernel
theorem dL_law_885 : decode cL_law 885 = .ok (.goto (-393), 3) := by decide +kernel
theorem dL_law_888 : decode cL_law 888 = .ok (.iconst 0, 1) := by decide +kernel
theorem dL_law_889 : decode cL_law 889 = .ok (.istore 16, 2) := by decide +kernel
theorem dL_law_891 : decode cL_law 891 = .ok (.iload 16, 2) := by decide +kernel
theorem dL_law_893 : decode cL_law 893 = .ok (.iload 4, 2) := by decide +kernel
theorem dL_law_895 : decode cL_law 895 = .ok (.if_icmp .ge 280, 3) := by decide +kernel
theorem dL_law_898 : decode cL_law 898 = .ok (.iload 16, 2) := by decide +kernel
theorem dL_law_900 : decode cL_law 900 = .ok (.ifCond .ne 7, 3) := by decide +kernel
theorem dL_law_903 : decode cL_law 903 = .ok (.iconst 0, 1) := by decide +kernel
theorem dL_law_904 : decode cL_law 904 = .ok (.goto 18, 3) := by decide +kernel
theorem dL_law_907 : decode cL_law 907 = .ok (.aload 14, 2) := by decide +kernel
theorem dL_law_909 : decode cL_law 909 = .ok (.iload 16, 2) := by decide +kernel
theorem dL_law_911 : decode cL_law 911 = .ok (.iconst 1, 1) := by decide +kernel
theorem dL_law_912 : decode cL_law 912 = .ok (.isub, 1) := by decide +kernel
theorem dL_law_913 : decode cL_law 913 = .ok (.aaload, 1) := by decide +kernel
theorem dL_law_914 : decode cL_law 914 = .ok (.aload 14, 2) := by decide +kernel
theorem dL_law_916 : decode cL_law 916 = .ok (.iload 16, 2) := by decide +kernel
theorem dL_law_918 : decode cL_law 918 = .ok (.aaload, 1) := by decide +kernel
theorem dL_law_919 : decode cL_law 919 = .ok (.invokestatic 128, 3) := by decide +kernel
theorem dL_law_922 : decode cL_law 922 = .ok (.istore 17, 2) := by decide +kernel
theorem dL_law_924 : decode cL_law 924 = .ok (.aload_n 1, 1) := by decide +kernel
theorem dL_law_925 : decode cL_law 925 = .ok (.iload 16, 2) := by decide +kernel
theorem dL_law_927 : decode cL_law 927 = .ok (.invokestatic 217, 3) := by decide +kernel
theorem dL_law_930 : decode cL_law 930 = .ok (.aload 15, 2) := by decide +kernel
theorem dL_law_932 : decode cL_law 932 = .ok (.iload 16, 2) := by decide +kernel
theorem dL_law_934 : decode cL_law 934 = .ok (.iaload, 1) := by decide +kernel
theorem dL_law_935 : decode cL_law 935 = .ok (.if_icmp .ne 132, 3) := by decide +kernel
theorem dL_law_938 : decode cL_law 938 = .ok (.aload_n 1, 1) := by decide +kernel
theorem dL_law_939 : decode cL_law 939 = .ok (.aload 15, 2) := by decide +kernel
theorem dL_law_941 : decode cL_law 941 = .ok (.iload 16, 2) := by decide +kernel
theorem dL_law_943 : decode cL_law 943 = .ok (.iaload, 1) := by decide +kernel
theorem dL_law_944 : decode cL_law 944 = .ok (.bipush 10, 2) := by decide +kernel
theorem dL_law_946 : decode cL_law 946 = .ok (.idiv, 1) := by decide +kernel
theorem dL_law_947 : decode cL_law 947 = .ok (.aload 15, 2) := by decide +kernel
theorem dL_law_949 : decode cL_law 949 = .ok (.iload 16, 2) := by decide +kernel
theorem dL_law_951 : decode cL_law 951 = .ok (.iaload, 1) := by decide +kernel
theorem dL_law_952 : decode cL_law 952 = .ok (.bipush 10, 2) := by decide +kernel
theorem dL_law_954 : decode cL_law 954 = .ok (.irem, 1) := by decide +kernel
theorem dL_law_955 : decode cL_law 955 = .ok (.invokevirtual 219, 3) := by decide +kernel
theorem dL_law_958 : decode cL_law 958 = .ok (.iload 16, 2) := by decide +kernel
theorem dL_law_960 : decode cL_law 960 = .ok (.if_icmp .ne 107, 3) := by decide +kernel
theorem dL_law_963 : decode cL_law 963 = .ok (.aload_n 1, 1) := by decide +kernel
theorem dL_law_964 : decode cL_law 964 = .ok (.aload 15, 2) := by decide +kernel
theorem dL_law_966 : decode cL_law 966 = .ok (.iload 16, 2) := by decide +kernel
theorem dL_law_968 : decode cL_law 968 = .ok (.iaload, 1) := by decide +kernel
theorem dL_law_969 : decode cL_law 969 = .ok (.bipush 10, 2) := by decide +kernel
theorem dL_law_971 : decode cL_law 971 = .ok (.idiv, 1) := by decide +kernel
theorem dL_law_972 : decode cL_law 972 = .ok (.aload 15, 2) := by decide +kernel
theorem dL_law_974 : decode cL_law 974 = .ok (.iload 16, 2) := by decide +kernel
theorem dL_law_976 : decode cL_law 976 = .ok (.iaload, 1) := by decide +kernel
theorem dL_law_977 : decode cL_law 977 = .ok (.bipush 10, 2) := by decide +kernel
theorem dL_law_979 : decode cL_law 979 = .ok (.irem, 1) := by decide +kernel
theorem dL_law_980 : decode cL_law 980 = .ok (.invokevirtual 222, 3) := by decide +kernel
theorem dL_law_983 : decode cL_law 983 = .ok (.iload 16, 2) := by decide +kernel
theorem dL_law_985 : decode cL_law 985 = .ok (.if_icmp .ne 82, 3) := by decide +kernel
theorem dL_law_988 : decode cL_law 988 = .ok (.aload_n 1, 1) := by decide +kernel
theorem dL_law_989 : decode cL_law 989 = .ok (.iload 16, 2) := by decide +kernel
theorem dL_law_991 : decode cL_law 991 = .ok (.invokestatic 225, 3) := by decide +kernel
theorem dL_law_994 : decode cL_law 994 = .ok (.iload 16, 2) := by decide +kernel
theorem dL_law_996 : decode cL_law 996 = .ok (.ifCond .ne 9, 3) := by decide +kernel
theorem dL_law_999 : decode cL_law 999 = .ok (.sipush (-2000), 3) := by decide +kernel
theorem dL_law_1002 : decode cL_law 1002 = .ok (.goto 5, 3) := by decide +kernel
theorem dL_law_1005 : decode cL_law 1005 = .ok (.iload 17, 2) := by decide +kernel
theorem dL_law_1007 : decode cL_law 1007 = .ok (.if_icmp .ne 60, 3) := by decide +kernel
theorem dL_law_1010 : decode cL_law 1010 = .ok (.aload_n 1, 1) := by decide +kernel
theorem dL_law_1011 : decode cL_law 1011 = .ok (.iload 16, 2) := by decide +kernel
theorem dL_law_1013 : decode cL_law 1013 = .ok (.invokevirtual 227, 3) := by decide +kernel
theorem dL_law_1016 : decode cL_law 1016 = .ok (.iconst 4, 1) := by decide +kernel
theorem dL_law_1017 : decode cL_law 1017 = .ok (.aload 14, 2) := by decide +kernel
theorem dL_law_1019 : decode cL_law 1019 = .ok (.iload 16, 2) := by decide +kernel
theorem dL_law_1021 : decode cL_law 1021 = .ok (.aaload, 1) := by decide +kernel
theorem dL_law_1022 : decode cL_law 1022 = .ok (.invokevirtual 13, 3) := by decide +kernel
theorem dL_law_1025 : decode cL_law 1025 = .ok (.iadd, 1) := by decide +kernel
theorem dL_law_1026 : decode cL_law 1026 = .ok (.if_icmp .ne 41, 3) := by decide +kernel
theorem dL_law_1029 : decode cL_law 1029 = .ok (.aload_n 1, 1) := by decide +kernel
theorem dL_law_1030 : decode cL_law 1030 = .ok (.iconst 0, 1) := by decide +kernel
theorem dL_law_1031 : decode cL_law 1031 = .ok (.invokevirtual 230, 3) := by decide +kernel
theorem dL_law_1034 : decode cL_law 1034 = .ok (.bipush 48, 2) := by decide +kernel
theorem dL_law_1036 : decode cL_law 1036 = .ok (.aload 15, 2) := by decide +kernel
theorem dL_law_1038 : decode cL_law 1038 = .ok (.iload 16, 2) := by decide +kernel
theorem dL_law_1040 : decode cL_law 1040 = .ok (.iaload, 1) := by decide +kernel
theorem dL_law_1041 : decode cL_law 1041 = .ok (.bipush 10, 2) := by decide +kernel
theorem dL_law_1043 : decode cL_law 1043 = .ok (.idiv, 1) := by decide +kernel
theorem dL_law_1044 : decode cL_law 1044 = .ok (.iadd, 1) := by decide +kernel
theorem dL_law_1045 : decode cL_law 1045 = .ok (.if_icmp .ne 22, 3) := by decide +kernel
theorem dL_law_1048 : decode cL_law 1048 = .ok (.aload_n 1, 1) := by decide +kernel
theorem dL_law_1049 : decode cL_law 1049 = .ok (.iconst 2, 1) := by decide +kernel
theorem dL_law_1050 : decode cL_law 1050 = .ok (.invokevirtual 230, 3) := by decide +kernel
theorem dL_law_1053 : decode cL_law 1053 = .ok (.bipush 48, 2) := by decide +kernel
theorem dL_law_1055 : decode cL_law 1055 = .ok (.aload 15, 2) := by decide +kernel
theorem dL_law_1057 : decode cL_law 1057 = .ok (.iload 16, 2) := by decide +kernel
theorem dL_law_1059 : decode cL_law 1059 = .ok (.iaload, 1) := by decide +kernel
theorem dL_law_1060 : decode cL_law 1060 = .ok (.bipush 10, 2) := by decide +kernel
theorem dL_law_1062 : decode cL_law 1062 = .ok (.irem, 1) := by decide +kernel
theorem dL_law_1063 : decode cL_law 1063 = .ok (.iadd, 1) := by decide +kernel
theorem dL_law_1064 : decode cL_law 1064 = .ok (.if_icmp .eq 5, 3) := by decide +kernel
theorem dL_law_1067 : decode cL_law 1067 = .ok (.iconst 0, 1) := by decide +kernel
theorem dL_law_1068 : decode cL_law 1068 = .ok (.ireturn, 1) := by decide +kernel
theorem dL_law_1069 : decode cL_law 1069 = .ok (.iconst 0, 1) := by decide +kernel
theorem dL_law_1070 : decode cL_law 1070 = .ok (.istore 18, 2) := by decide +kernel
theorem dL_law_1072 : decode cL_law 1072 = .ok (.iload 18, 2) := by decide +kernel
theorem dL_law_1074 : decode cL_law 1074 = .ok (.aload 14, 2) := by decide +kernel
theorem dL_law_1076 : decode cL_law 1076 = .ok (.iload 16, 2) := by decide +kernel
theorem dL_law_1078 : decode cL_law 1078 = .ok (.aaload, 1) := by decide +kernel
theorem dL_law_1079 : decode cL_law 1079 = .ok (.invokevirtual 13, 3) := by decide +kernel
theorem dL_law_1082 : decode cL_law 1082 = .ok (.if_icmp .ge 32, 3) := by decide +kernel
theorem dL_law_1085 : decode cL_law 1085 = .ok (.aload_n 1, 1) := by decide +kernel
theorem dL_law_1086 : decode cL_law 1086 = .ok (.iconst 4, 1) := by decide +kernel
theorem dL_law_1087 : decode cL_law 1087 = .ok (.iload 18, 2) := by decide +kernel
theorem dL_law_1089 : decode cL_law 1089 = .ok (.iadd, 1) := by decide +kernel
theorem dL_law_1090 : decode cL_law 1090 = .ok (.invokevirtual 230, 3) := by decide +kernel
theorem dL_law_1093 : decode cL_law 1093 = .ok (.aload 14, 2) := by decide +kernel
theorem dL_law_1095 : decode cL_law 1095 = .ok (.iload 16, 2) := by decide +kernel
theorem dL_law_1097 : decode cL_law 1097 = .ok (.aaload, 1) := by decide +kernel
theorem dL_law_1098 : decode cL_law 1098 = .ok (.iload 18, 2) := by decide +kernel
theorem dL_law_1100 : decode cL_law 1100 = .ok (.invokevirtual 19, 3) := by decide +kernel
theorem dL_law_1103 : decode cL_law 1103 = .ok (.if_icmp .eq 5, 3) := by decide +kernel
theorem dL_law_1106 : decode cL_law 1106 = .ok (.iconst 0, 1) := by decide +kernel
theorem dL_law_1107 : decode cL_law 1107 = .ok (.ireturn, 1) := by decide +kernel
theorem dL_law_1108 : decode cL_law 1108 = .ok (.iinc 18 1, 3) := by decide +kernel
theorem dL_law_1111 : decode cL_law 1111 = .ok (.goto (-39), 3) := by decide +kernel
theorem dL_law_1114 : decode cL_law 1114 = .ok (.iload 5, 2) := by decide +kernel
theorem dL_law_1116 : decode cL_law 1116 = .ok (.iload 17, 2) := by decide +kernel
theorem dL_law_1118 : decode cL_law 1118 = .ok (.iadd, 1) := by decide +kernel
theorem dL_law_1119 : decode cL_law 1119 = .ok (.istore 5, 2) := by decide +kernel
theorem dL_law_1121 : decode cL_law 1121 = .ok (.iload 6, 2) := by decide +kernel
theorem dL_law_1123 : decode cL_law 1123 = .ok (.iload 17, 2) := by decide +kernel
theorem dL_law_1125 : decode cL_law 1125 = .ok (.ifCond .le 7, 3) := by decide +kernel
theorem dL_law_1128 : decode cL_law 1128 = .ok (.iconst 1, 1) := by decide +kernel
theorem dL_law_1129 : decode cL_law 1129 = .ok (.goto 4, 3) := by decide +kernel
theorem dL_law_1132 : decode cL_law 1132 = .ok (.iconst 0, 1) := by decide +kernel
theorem dL_law_1133 : decode cL_law 1133 = .ok (.iadd, 1) := by decide +kernel
theorem dL_law_1134 : decode cL_law 1134 = .ok (.istore 6, 2) := by decide +kernel
theorem dL_law_1136 : decode cL_law 1136 = .ok (.iload 12, 2) := by decide +kernel
theorem dL_law_1138 : decode cL_law 1138 = .ok (.aload 14, 2) := by decide +kernel
theorem dL_law_1140 : decode cL_law 1140 = .ok (.iload 16, 2) := by decide +kernel
theorem dL_law_1142 : decode cL_law 1142 = .ok (.aaload, 1) := by decide +kernel
theorem dL_law_1143 : decode cL_law 1143 = .ok (.invokevirtual 13, 3) := by decide +kernel
theorem dL_law_1146 : decode cL_law 1146 = .ok (.iload 17, 2) := by decide +kernel
theorem dL_law_1148 : decode cL_law 1148 = .ok (.isub, 1) := by decide +kernel
theorem dL_law_1149 : decode cL_law 1149 = .ok (.iadd, 1) := by decide +kernel
theorem dL_law_1150 : decode cL_law 1150 = .ok (.istore 12, 2) := by decide +kernel
theorem dL_law_1152 : decode cL_law 1152 = .ok (.iload 17, 2) := by decide +kernel
theorem dL_law_1154 : decode cL_law 1154 = .ok (.iload 7, 2) := by decide +kernel
theorem dL_law_1156 : decode cL_law 1156 = .ok (.if_icmp .le 13, 3) := by decide +kernel
theorem dL_law_1159 : decode cL_law 1159 = .ok (.iload 17, 2) := by decide +kernel
theorem dL_law_1161 : decode cL_law 1161 = .ok (.istore 7, 2) := by decide +kernel
theorem dL_law_1163 : decode cL_law 1163 = .ok (.iload 16, 2) := by decide +kernel
theorem dL_law_1165 : decode cL_law 1165 = .ok (.iconst 1, 1) := by decide +kernel
theorem dL_law_1166 : decode cL_law 1166 = .ok (.isub, 1) := by decide +kernel
theorem dL_law_1167 : decode cL_law 1167 = .ok (.istore 8, 2) := by decide +kernel
theorem dL_law_1169 : decode cL_law 1169 = .ok (.iinc 16 1, 3) := by decide +kernel
theorem dL_law_1172 : decode cL_law 1172 = .ok (.goto (-281), 3) := by decide +kernel
theorem dL_law_1175 : decode cL_law 1175 = .ok (.aload_n 1, 1) := by decide +kernel
theorem dL_law_1176 : decode cL_law 1176 = .ok (.iload 4, 2) := by decide +kernel
theorem dL_law_1178 : decode cL_law 1178 = .ok (.invokestatic 217, 3) := by decide +kernel
theorem dL_law_1181 : decode cL_law 1181 = .ok (.sipush (-2000), 3) := by decide +kernel
theorem dL_law_1184 : decode cL_law 1184 = .ok (.if_icmp .ne 126, 3) := by decide +kernel
theorem dL_law_1187 : decode cL_law 1187 = .ok (.aload_n 1, 1) := by decide +kernel
theorem dL_law_1188 : decode cL_law 1188 = .ok (.iload 4, 2) := by decide +kernel
theorem dL_law_1190 : decode cL_law 1190 = .ok (.invokestatic 225, 3) := by decide +kernel
theorem dL_law_1193 : decode cL_law 1193 = .ok (.sipush (-2000), 3) := by decide +kernel
theorem dL_law_1196 : decode cL_law 1196 = .ok (.if_icmp .ne 114, 3) := by decide +kernel
theorem dL_law_1199 : decode cL_law 1199 = .ok (.aload_n 1, 1) := by decide +kernel
theorem dL_law_1200 : decode cL_law 1200 = .ok (.invokevirtual 233, 3) := by decide +kernel
theorem dL_law_1203 : decode cL_law 1203 = .ok (.iload 7, 2) := by decide +kernel
theorem dL_law_1205 : decode cL_law 1205 = .ok (.if_icmp .ne 105, 3) := by decide +kernel
theorem dL_law_1208 : decode cL_law 1208 = .ok (.aload_n 1, 1) := by decide +kernel
theorem dL_law_1209 : decode cL_law 1209 = .ok (.invokestatic 236, 3) := by decide +kernel
theorem dL_law_1212 : decode cL_law 1212 = .ok (.iload 8, 2) := by decide +kernel
theorem dL_law_1214 : decode cL_law 1214 = .ok (.if_icmp .ne 96, 3) := by decide +kernel
theorem dL_law_1217 : decode cL_law 1217 = .ok (.aload_n 1, 1) := by decide +kernel
theorem dL_law_1218 : decode cL_law 1218 = .ok (.invokestatic 239, 3) := by decide +kernel
theorem dL_law_1221 : decode cL_law 1221 = .ok (.iload 8, 2) := by decide +kernel
theorem dL_law_1223 : decode cL_law 1223 = .ok (.sipush (-2000), 3) := by decide +kernel
theorem dL_law_1226 : decode cL_law 1226 = .ok (.if_icmp .ne 9, 3) := by decide +kernel
theorem dL_law_1229 : decode cL_law 1229 = .ok (.sipush (-2000), 3) := by decide +kernel
theorem dL_law_1232 : decode cL_law 1232 = .ok (.goto 5, 3) := by decide +kernel
theorem dL_law_1235 : decode cL_law 1235 = .ok (.iload 7, 2) := by decide +kernel
theorem dL_law_1237 : decode cL_law 1237 = .ok (.if_icmp .ne 73, 3) := by decide +kernel
theorem dL_law_1240 : decode cL_law 1240 = .ok (.aload_n 1, 1) := by decide +kernel
theorem dL_law_1241 : decode cL_law 1241 = .ok (.invokevirtual 241, 3) := by decide +kernel
theorem dL_law_1244 : decode cL_law 1244 = .ok (.iload 12, 2) := by decide +kernel
theorem dL_law_1246 : decode cL_law 1246 = .ok (.if_icmp .ne 64, 3) := by decide +kernel
theorem dL_law_1249 : decode cL_law 1249 = .ok (.aload_n 1, 1) := by decide +kernel
theorem dL_law_1250 : decode cL_law 1250 = .ok (.invokevirtual 244, 3) := by decide +kernel
theorem dL_law_1253 : decode cL_law 1253 = .ok (.iload 12, 2) := by decide +kernel
theorem dL_law_1255 : decode cL_law 1255 = .ok (.if_icmp .ne 55, 3) := by decide +kernel
theorem dL_law_1258 : decode cL_law 1258 = .ok (.aload_n 1, 1) := by decide +kernel
theorem dL_law_1259 : decode cL_law 1259 = .ok (.invokevirtual 247, 3) := by decide +kernel
theorem dL_law_1262 : decode cL_law 1262 = .ok (.iload 9, 2) := by decide +kernel
theorem dL_law_1264 : decode cL_law 1264 = .ok (.if_icmp .ne 46, 3) := by decide +kernel
theorem dL_law_1267 : decode cL_law 1267 = .ok (.aload_n 1, 1) := by decide +kernel
theorem dL_law_1268 : decode cL_law 1268 = .ok (.iconst 1, 1) := by decide +kernel
theorem dL_law_1269 : decode cL_law 1269 = .ok (.invokevirtual 143, 3) := by decide +kernel
theorem dL_law_1272 : decode cL_law 1272 = .ok (.iload 4, 2) := by decide +kernel
theorem dL_law_1274 : decode cL_law 1274 = .ok (.if_icmp .ne 36, 3) := by decide +kernel
theorem dL_law_1277 : decode cL_law 1277 = .ok (.aload_n 1, 1) := by decide +kernel
theorem dL_law_1278 : decode cL_law 1278 = .ok (.iconst 2, 1) := by decide +kernel
theorem dL_law_1279 : decode cL_law 1279 = .ok (.invokevirtual 143, 3) := by decide +kernel
theorem dL_law_1282 : decode cL_law 1282 = .ok (.iload 11, 2) := by decide +kernel
theorem dL_law_1284 : decode cL_law 1284 = .ok (.invokestatic 190, 3) := by decide +kernel
theorem dL_law_1287 : decode cL_law 1287 = .ok (.if_icmp .ne 23, 3) := by decide +kernel
theorem dL_law_1290 : decode cL_law 1290 = .ok (.aload_n 1, 1) := by decide +kernel
theorem dL_law_1291 : decode cL_law 1291 = .ok (.iconst 3, 1) := by decide +kernel
theorem dL_law_1292 : decode cL_law 1292 = .ok (.invokevirtual 143, 3) := by decide +kernel
theorem dL_law_1295 : decode cL_law 1295 = .ok (.iload 5, 2) := by decide +kernel
theorem dL_law_1297 : decode cL_law 1297 = .ok (.if_icmp .ne 13, 3) := by decide +kernel
theorem dL_law_1300 : decode cL_law 1300 = .ok (.aload_n 1, 1) := by decide +kernel
theorem dL_law_1301 : decode cL_law 1301 = .ok (.iconst 4, 1) := by decide +kernel
theorem dL_law_1302 : decode cL_law 1302 = .ok (.invokevirtual 143, 3) := by decide +kernel
theorem dL_law_1305 : decode cL_law 1305 = .ok (.iload 10, 2) := by decide +kernel
theorem dL_law_1307 : decode cL_law 1307 = .ok (.if_icmp .eq 5, 3) := by decide +kernel
theorem dL_law_1310 : decode cL_law 1310 = .ok (.iconst 0, 1) := by decide +kernel
theorem dL_law_1311 : decode cL_law 1311 = .ok (.ireturn, 1) := by decide +kernel
theorem dL_law_1312 : decode cL_law 1312 = .ok (.iconst 0, 1) := by decide +kernel
theorem dL_law_1313 : decode cL_law 1313 = .ok (.istore 16, 2) := by decide +kernel
theorem dL_law_1315 : decode cL_law 1315 = .ok (.iload 16, 2) := by decide +kernel
theorem dL_law_1317 : decode cL_law 1317 = .ok (.iload 7, 2) := by decide +kernel
theorem dL_law_1319 : decode cL_law 1319 = .ok (.if_icmp .ge 30, 3) := by decide +kernel
theorem dL_law_1322 : decode cL_law 1322 = .ok (.aload_n 1, 1) := by decide +kernel
theorem dL_law_1323 : decode cL_law 1323 = .ok (.iload 16, 2) := by decide +kernel
theorem dL_law_1325 : decode cL_law 1325 = .ok (.invokevirtual 230, 3) := by decide +kernel
theorem dL_law_1328 : decode cL_law 1328 = .ok (.aload 14, 2) := by decide +kernel
theorem dL_law_1330 : decode cL_law 1330 = .ok (.iload 8, 2) := by decide +kernel
theorem dL_law_1332 : decode cL_law 1332 = .ok (.aaload, 1) := by decide +kernel
theorem dL_law_1333 : decode cL_law 1333 = .ok (.iload 16, 2) := by decide +kernel
theorem dL_law_1335 : decode cL_law 1335 = .ok (.invokevirtual 19, 3) := by decide +kernel
theorem dL_law_1338 : decode cL_law 1338 = .ok (.if_icmp .eq 5, 3) := by decide +kernel
theorem dL_law_1341 : decode cL_law 1341 = .ok (.iconst 0, 1) := by decide +kernel
theorem dL_law_1342 : decode cL_law 1342 = .ok (.ireturn, 1) := by decide +kernel
theorem dL_law_1343 : decode cL_law 1343 = .ok (.iinc 16 1, 3) := by decide +kernel
theorem dL_law_1346 : decode cL_law 1346 = .ok (.goto (-31), 3) := by decide +kernel
theorem dL_law_1349 : decode cL_law 1349 = .ok (.iload_n 3, 1) := by decide +kernel
theorem dL_law_1350 : decode cL_law 1350 = .ok (.ifCond .le 34, 3) := by decide +kernel
theorem dL_law_1353 : decode cL_law 1353 = .ok (.aload_n 1, 1) := by decide +kernel
theorem dL_law_1354 : decode cL_law 1354 = .ok (.invokevirtual 250, 3) := by decide +kernel
theorem dL_law_1357 : decode cL_law 1357 = .ok (.iload 4, 2) := by decide +kernel
theorem dL_law_1359 : decode cL_law 1359 = .ok (.i2f, 1) := by decide +kernel
theorem dL_law_1360 : decode cL_law 1360 = .ok (.iload_n 3, 1) := by decide +kernel
theorem dL_law_1361 : decode cL_law 1361 = .ok (.i2f, 1) := by decide +kernel
theorem dL_law_1362 : decode cL_law 1362 = .ok (.fdiv, 1) := by decide +kernel
theorem dL_law_1363 : decode cL_law 1363 = .ok (.fcmp .l, 1) := by decide +kernel
theorem dL_law_1364 : decode cL_law 1364 = .ok (.ifCond .ne 18, 3) := by decide +kernel
theorem dL_law_1367 : decode cL_law 1367 = .ok (.aload_n 1, 1) := by decide +kernel
theorem dL_law_1368 : decode cL_law 1368 = .ok (.invokevirtual 254, 3) := by decide +kernel
theorem dL_law_1371 : decode cL_law 1371 = .ok (.iload 6, 2) := by decide +kernel
theorem dL_law_1373 : decode cL_law 1373 = .ok (.i2d, 1) := by decide +kernel
theorem dL_law_1374 : decode cL_law 1374 = .ok (.iload 4, 2) := by decide +kernel
theorem dL_law_1376 : decode cL_law 1376 = .ok (.i2d, 1) := by decide +kernel
theorem dL_law_1377 : decode cL_law 1377 = .ok (.ddiv, 1) := by decide +kernel
theorem dL_law_1378 : decode cL_law 1378 = .ok (.dcmp .l, 1) := by decide +kernel
theorem dL_law_1379 : decode cL_law 1379 = .ok (.ifCond .eq 5, 3) := by decide +kernel
theorem dL_law_1382 : decode cL_law 1382 = .ok (.iconst 0, 1) := by decide +kernel
theorem dL_law_1383 : decode cL_law 1383 = .ok (.ireturn, 1) := by decide +kernel
theorem dL_law_1384 : decode cL_law 1384 = .ok (.aload_n 1, 1) := by decide +kernel
theorem dL_law_1385 : decode cL_law 1385 = .ok (.aload_n 0, 1) := by decide +kernel
theorem dL_law_1386 : decode cL_law 1386 = .ok (.bipush 70, 2) := by decide +kernel
theorem dL_law_1388 : decode cL_law 1388 = .ok (.iconst 4, 1) := by decide +kernel
theorem dL_law_1389 : decode cL_law 1389 = .ok (.iload_n 2, 1) := by decide +kernel
theorem dL_law_1390 : decode cL_law 1390 = .ok (.imul, 1) := by decide +kernel
theorem dL_law_1391 : decode cL_law 1391 = .ok (.iadd, 1) := by decide +kernel
theorem dL_law_1392 : decode cL_law 1392 = .ok (.invokestatic 139, 3) := by decide +kernel
theorem dL_law_1395 : decode cL_law 1395 = .ok (.iinc 2 1, 3) := by decide +kernel
theorem dL_law_1398 : decode cL_law 1398 = .ok (.goto (-1383), 3) := by decide +kernel
theorem dL_law_1401 : decode cL_law 1401 = .ok (.aload_n 0, 1) := by decide +kernel
theorem dL_law_1402 : decode cL_law 1402 = .ok (.bipush 92, 2) := by decide +kernel
theorem dL_law_1404 : decode cL_law 1404 = .ok (.iconst 3, 1) := by decide +kernel
theorem dL_law_1405 : decode cL_law 1405 = .ok (.invokestatic 132, 3) := by decide +kernel
theorem dL_law_1408 : decode cL_law 1408 = .ok (.astore_n 2, 1) := by decide +kernel
theorem dL_law_1409 : decode cL_law 1409 = .ok (.aload_n 1, 1) := by decide +kernel
theorem dL_law_1410 : decode cL_law 1410 = .ok (.aload_n 2, 1) := by decide +kernel
theorem dL_law_1411 : decode cL_law 1411 = .ok (.invokestatic 29, 3) := by decide +kernel
theorem dL_law_1414 : decode cL_law 1414 = .ok (.iconst 0, 1) := by decide +kernel
theorem dL_law_1415 : decode cL_law 1415 = .ok (.istore_n 3, 1) := by decide +kernel
theorem dL_law_1416 : decode cL_law 1416 = .ok (.sipush (-2000), 3) := by decide +kernel
theorem dL_law_1419 : decode cL_law 1419 = .ok (.istore 4, 2) := by decide +kernel
theorem dL_law_1421 : decode cL_law 1421 = .ok (.aload_n 1, 1) := by decide +kernel
theorem dL_law_1422 : decode cL_law 1422 = .ok (.iconst 1, 1) := by decide +kernel
theorem dL_law_1423 : decode cL_law 1423 = .ok (.invokevirtual 143, 3) := by decide +kernel
theorem dL_law_1426 : decode cL_law 1426 = .ok (.istore 5, 2) := by decide +kernel
theorem dL_law_1428 : decode cL_law 1428 = .ok (.iconst 0, 1) := by decide +kernel
theorem dL_law_1429 : decode cL_law 1429 = .ok (.istore 6, 2) := by decide +kernel
theorem dL_law_1431 : decode cL_law 1431 = .ok (.iconst 0, 1) := by decide +kernel
theorem dL_law_1432 : decode cL_law 1432 = .ok (.istore 7, 2) := by decide +kernel
theorem dL_law_1434 : decode cL_law 1434 = .ok (.iload 7, 2) := by decide +kernel
theorem dL_law_1436 : decode cL_law 1436 = .ok (.iload 5, 2) := by decide +kernel
theorem dL_law_1438 : decode cL_law 1438 = .ok (.if_icmp .ge 68, 3) := by decide +kernel
theorem dL_law_1441 : decode cL_law 1441 = .ok (.aload_n 1, 1) := by decide +kernel
theorem dL_law_1442 : decode cL_law 1442 = .ok (.aload_n 1, 1) := by decide +kernel
theorem dL_law_1443 : decode cL_law 1443 = .ok (.iload 7, 2) := by decide +kernel
theorem dL_law_1445 : decode cL_law 1445 = .ok (.iconst 0, 1) := by decide +kernel
theorem dL_law_1446 : decode cL_law 1446 = .ok (.invokevirtual 68, 3) := by decide +kernel
theorem dL_law_1449 : decode cL_law 1449 = .ok (.invokestatic 175, 3) := by decide +kernel
theorem dL_law_1452 : decode cL_law 1452 = .ok (.aload_n 1, 1) := by decide +kernel
theorem dL_law_1453 : decode cL_law 1453 = .ok (.iload 7, 2) := by decide +kernel
theorem dL_law_1455 : decode cL_law 1455 = .ok (.iconst 1, 1) := by decide +kernel
theorem dL_law_1456 : decode cL_law 1456 = .ok (.invokevirtual 68, 3) := by decide +kernel
theorem dL_law_1459 : decode cL_law 1459 = .ok (.invokevirtual 179, 3) := by decide +kernel
theorem dL_law_1462 : decode cL_law 1462 = .ok (.astore 8, 2) := by decide +kernel
theorem dL_law_1464 : decode cL_law 1464 = .ok (.aload 8, 2) := by decide +kernel
theorem dL_law_1466 : decode cL_law 1466 = .ok (.aload_n 2, 1) := by decide +kernel
theorem dL_law_1467 : decode cL_law 1467 = .ok (.invokestatic 128, 3) := by decide +kernel
theorem dL_law_1470 : decode cL_law 1470 = .ok (.aload_n 2, 1) := by decide +kernel
theorem dL_law_1471 : decode cL_law 1471 = .ok (.invokevirtual 13, 3) := by decide +kernel
theorem dL_law_1474 : decode cL_law 1474 = .ok (.if_icmp .ge 6, 3) := by decide +kernel
theorem dL_law_1477 : decode cL_law 1477 = .ok (.goto 23, 3) := by decide +kernel
theorem dL_law_1480 : decode cL_law 1480 = .ok (.iinc 3 1, 3) := by decide +kernel
theorem dL_law_1483 : decode cL_law 1483 = .ok (.iload 4, 2) := by decide +kernel
theorem dL_law_1485 : decode cL_law 1485 = .ok (.sipush (-2000), 3) := by decide +kernel
theorem dL_law_1488 : decode cL_law 1488 = .ok (.if_icmp .ne 8, 3) := by decide +kernel
theorem dL_law_1491 : decode cL_law 1491 = .ok (.iload 7, 2) := by decide +kernel
theorem dL_law_1493 : decode cL_law 1493 = .ok (.goto 5, 3) := by decide +kernel
theorem dL_law_1496 : decode cL_law 1496 = .ok (.iload 4, 2) := by decide +kernel
theorem dL_law_1498 : decode cL_law 1498 = .ok (.istore 4, 2) := by decide +kernel
theorem dL_law_1500 : decode cL_law 1500 = .ok (.iinc 7 1, 3) := by decide +kernel
theorem dL_law_1503 : decode cL_law 1503 = .ok (.goto (-69), 3) := by decide +kernel
theorem dL_law_1506 : decode cL_law 1506 = .ok (.iconst 0, 1) := by decide +kernel
theorem dL_law_1507 : decode cL_law 1507 = .ok (.istore 7, 2) := by decide +kernel
theorem dL_law_1509 : decode cL_law 1509 = .ok (.iload 7, 2) := by decide +kernel
theorem dL_law_1511 : decode cL_law 1511 = .ok (.aload_n 1, 1) := by decide +kernel
theorem dL_law_1512 : decode cL_law 1512 = .ok (.iconst 0, 1) := by decide +kernel
theorem dL_law_1513 : decode cL_law 1513 = .ok (.invokevirtual 143, 3) := by decide +kernel
theorem dL_law_1516 : decode cL_law 1516 = .ok (.if_icmp .ge 32, 3) := by decide +kernel
theorem dL_law_1519 : decode cL_law 1519 = .ok (.iload 6, 2) := by decide +kernel
theorem dL_law_1521 : decode cL_law 1521 = .ok (.aload_n 1, 1) := by decide +kernel
theorem dL_law_1522 : decode cL_law 1522 = .ok (.iload 7, 2) := by decide +kernel
theorem dL_law_1524 : decode cL_law 1524 = .ok (.invokestatic 175, 3) := by decide +kernel
theorem dL_law_1527 : decode cL_law 1527 = .ok (.aload_n 2, 1) := by decide +kernel
theorem dL_law_1528 : decode cL_law 1528 = .ok (.invokestatic 183, 3) := by decide +kernel
theorem dL_law_1531 : decode cL_law 1531 = .ok (.ifCond .ne 7, 3) := by decide +kernel
theorem dL_law_1534 : decode cL_law 1534 = .ok (.iconst 1, 1) := by decide +kernel
theorem dL_law_1535 : decode cL_law 1535 = .ok (.goto 4, 3) := by decide +kernel
theorem dL_law_1538 : decode cL_law 1538 = .ok (.iconst 0, 1) := by decide +kernel
theorem dL_law_1539 : decode cL_law 1539 = .ok (.ior, 1) := by decide +kernel
theorem dL_law_1540 : decode cL_law 1540 = .ok (.istore 6, 2) := by decide +kernel
theorem dL_law_1542 : decode cL_law 1542 = .ok (.iinc 7 1, 3) := by decide +kernel
theorem dL_law_1545 : decode cL_law 1545 = .ok (.goto (-36), 3) := by decide +kernel
theorem dL_law_1548 : decode cL_law 1548 = .ok (.aload_n 1, 1) := by decide +kernel
theorem dL_law_1549 : decode cL_law 1549 = .ok (.iconst 0, 1) := by decide +kernel
theorem dL_law_1550 : decode cL_law 1550 = .ok (.invokestatic 258, 3) := by decide +kernel
theorem dL_law_1553 : decode cL_law 1553 = .ok (.iload_n 3, 1) := by decide +kernel
theorem dL_law_1554 : decode cL_law 1554 = .ok (.if_icmp .ne 47, 3) := by decide +kernel
theorem dL_law_1557 : decode cL_law 1557 = .ok (.aload_n 1, 1) := by decide +kernel
theorem dL_law_1558 : decode cL_law 1558 = .ok (.iconst 1, 1) := by decide +kernel
theorem dL_law_1559 : decode cL_law 1559 = .ok (.invokestatic 258, 3) := by decide +kernel
theorem dL_law_1562 : decode cL_law 1562 = .ok (.iload_n 3, 1) := by decide +kernel
theorem dL_law_1563 : decode cL_law 1563 = .ok (.if_icmp .ne 38, 3) := by decide +kernel
theorem dL_law_1566 : decode cL_law 1566 = .ok (.aload_n 1, 1) := by decide +kernel
theorem dL_law_1567 : decode cL_law 1567 = .ok (.invokestatic 261, 3) := by decide +kernel
theorem dL_law_1570 : decode cL_law 1570 = .ok (.iload 4, 2) := by decide +kernel
theorem dL_law_1572 : decode cL_law 1572 = .ok (.if_icmp .ne 29, 3) := by decide +kernel
theorem dL_law_1575 : decode cL_law 1575 = .ok (.aload_n 1, 1) := by decide +kernel
theorem dL_law_1576 : decode cL_law 1576 = .ok (.invokevirtual 263, 3) := by decide +kernel
theorem dL_law_1579 : decode cL_law 1579 = .ok (.iload 6, 2) := by decide +kernel
theorem dL_law_1581 : decode cL_law 1581 = .ok (.if_icmp .ne 20, 3) := by decide +kernel
theorem dL_law_1584 : decode cL_law 1584 = .ok (.aload_n 1, 1) := by decide +kernel
theorem dL_law_1585 : decode cL_law 1585 = .ok (.bipush 6, 2) := by decide +kernel
theorem dL_law_1587 : decode cL_law 1587 = .ok (.invokevirtual 143, 3) := by decide +kernel
theorem dL_law_1590 : decode cL_law 1590 = .ok (.aload_n 2, 1) := by decide +kernel
theorem dL_law_1591 : decode cL_law 1591 = .ok (.invokevirtual 13, 3) := by decide +kernel
theorem dL_law_1594 : decode cL_law 1594 = .ok (.if_icmp .ne 7, 3) := by decide +kernel
theorem dL_law_1597 : decode cL_law 1597 = .ok (.iconst 1, 1) := by decide +kernel
theorem dL_law_1598 : decode cL_law 1598 = .ok (.goto 4, 3) := by decide +kernel
theorem dL_law_1601 : decode cL_law 1601 = .ok (.iconst 0, 1) := by decide +kernel
theorem dL_law_1602 : decode cL_law 1602 = .ok (.ireturn, 1) := by decide +kernel
