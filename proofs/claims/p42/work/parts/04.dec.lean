/-! decode rows (printed, given for pasting) -/
theorem dX0_init_0 : decode cX0_init 0 = .ok (.aload_n 0, 1) := by decide +kernel
theorem dX0_init_1 : decode cX0_init 1 = .ok (.invokespecial 3, 3) := by decide +kernel
theorem dX0_init_4 : decode cX0_init 4 = .ok (.aload_n 0, 1) := by decide +kernel
theorem dX0_init_5 : decode cX0_init 5 = .ok (.bipush 80, 2) := by decide +kernel
theorem dX0_init_7 : decode cX0_init 7 = .ok (.newarray .char, 2) := by decide +kernel
theorem dX0_init_9 : decode cX0_init 9 = .ok (.putfield 9, 3) := by decide +kernel
theorem dX0_init_12 : decode cX0_init 12 = .ok (.aload_n 0, 1) := by decide +kernel
theorem dX0_init_13 : decode cX0_init 13 = .ok (.bipush 8, 2) := by decide +kernel
theorem dX0_init_15 : decode cX0_init 15 = .ok (.newarray .int, 2) := by decide +kernel
theorem dX0_init_17 : decode cX0_init 17 = .ok (.putfield 15, 3) := by decide +kernel
theorem dX0_init_20 : decode cX0_init 20 = .ok (.aload_n 0, 1) := by decide +kernel
theorem dX0_init_21 : decode cX0_init 21 = .ok (.iconst 0, 1) := by decide +kernel
theorem dX0_init_22 : decode cX0_init 22 = .ok (.putfield 19, 3) := by decide +kernel
theorem dX0_init_25 : decode cX0_init 25 = .ok (.return_, 1) := by decide +kernel
theorem dX0_lines_0 : decode cX0_lines 0 = .ok (.aload_n 0, 1) := by decide +kernel
theorem dX0_lines_1 : decode cX0_lines 1 = .ok (.getfield 19, 3) := by decide +kernel
theorem dX0_lines_4 : decode cX0_lines 4 = .ok (.ireturn, 1) := by decide +kernel
theorem dX0_hasLine_0 : decode cX0_hasLine 0 = .ok (.iload_n 1, 1) := by decide +kernel
theorem dX0_hasLine_1 : decode cX0_hasLine 1 = .ok (.ifCond .lt 15, 3) := by decide +kernel
theorem dX0_hasLine_4 : decode cX0_hasLine 4 = .ok (.iload_n 1, 1) := by decide +kernel
theorem dX0_hasLine_5 : decode cX0_hasLine 5 = .ok (.aload_n 0, 1) := by decide +kernel
theorem dX0_hasLine_6 : decode cX0_hasLine 6 = .ok (.getfield 19, 3) := by decide +kernel
theorem dX0_hasLine_9 : decode cX0_hasLine 9 = .ok (.if_icmp .ge 7, 3) := by decide +kernel
theorem dX0_hasLine_12 : decode cX0_hasLine 12 = .ok (.iconst 1, 1) := by decide +kernel
theorem dX0_hasLine_13 : decode cX0_hasLine 13 = .ok (.goto 4, 3) := by decide +kernel
theorem dX0_hasLine_16 : decode cX0_hasLine 16 = .ok (.iconst 0, 1) := by decide +kernel
theorem dX0_hasLine_17 : decode cX0_hasLine 17 = .ok (.ireturn, 1) := by decide +kernel
theorem dX0_hasPlace_0 : decode cX0_hasPlace 0 = .ok (.iload_n 1, 1) := by decide +kernel
theorem dX0_hasPlace_1 : decode cX0_hasPlace 1 = .ok (.ifCond .lt 29, 3) := by decide +kernel
theorem dX0_hasPlace_4 : decode cX0_hasPlace 4 = .ok (.iload_n 1, 1) := by decide +kernel
theorem dX0_hasPlace_5 : decode cX0_hasPlace 5 = .ok (.aload_n 0, 1) := by decide +kernel
theorem dX0_hasPlace_6 : decode cX0_hasPlace 6 = .ok (.getfield 19, 3) := by decide +kernel
theorem dX0_hasPlace_9 : decode cX0_hasPlace 9 = .ok (.if_icmp .ge 21, 3) := by decide +kernel
theorem dX0_hasPlace_12 : decode cX0_hasPlace 12 = .ok (.iload_n 2, 1) := by decide +kernel
theorem dX0_hasPlace_13 : decode cX0_hasPlace 13 = .ok (.ifCond .lt 17, 3) := by decide +kernel
theorem dX0_hasPlace_16 : decode cX0_hasPlace 16 = .ok (.iload_n 2, 1) := by decide +kernel
theorem dX0_hasPlace_17 : decode cX0_hasPlace 17 = .ok (.aload_n 0, 1) := by decide +kernel
theorem dX0_hasPlace_18 : decode cX0_hasPlace 18 = .ok (.getfield 15, 3) := by decide +kernel
theorem dX0_hasPlace_21 : decode cX0_hasPlace 21 = .ok (.iload_n 1, 1) := by decide +kernel
theorem dX0_hasPlace_22 : decode cX0_hasPlace 22 = .ok (.iaload, 1) := by decide +kernel
theorem dX0_hasPlace_23 : decode cX0_hasPlace 23 = .ok (.if_icmp .ge 7, 3) := by decide +kernel
theorem dX0_hasPlace_26 : decode cX0_hasPlace 26 = .ok (.iconst 1, 1) := by decide +kernel
theorem dX0_hasPlace_27 : decode cX0_hasPlace 27 = .ok (.goto 4, 3) := by decide +kernel
theorem dX0_hasPlace_30 : decode cX0_hasPlace 30 = .ok (.iconst 0, 1) := by decide +kernel
theorem dX0_hasPlace_31 : decode cX0_hasPlace 31 = .ok (.ireturn, 1) := by decide +kernel
theorem dX0_size_0 : decode cX0_size 0 = .ok (.aload_n 0, 1) := by decide +kernel
theorem dX0_size_1 : decode cX0_size 1 = .ok (.iload_n 1, 1) := by decide +kernel
theorem dX0_size_2 : decode cX0_size 2 = .ok (.invokevirtual 23, 3) := by decide +kernel
theorem dX0_size_5 : decode cX0_size 5 = .ok (.ifCond .eq 12, 3) := by decide +kernel
theorem dX0_size_8 : decode cX0_size 8 = .ok (.aload_n 0, 1) := by decide +kernel
theorem dX0_size_9 : decode cX0_size 9 = .ok (.getfield 15, 3) := by decide +kernel
theorem dX0_size_12 : decode cX0_size 12 = .ok (.iload_n 1, 1) := by decide +kernel
theorem dX0_size_13 : decode cX0_size 13 = .ok (.iaload, 1) := by decide +kernel
theorem dX0_size_14 : decode cX0_size 14 = .ok (.goto 4, 3) := by decide +kernel
theorem dX0_size_17 : decode cX0_size 17 = .ok (.iconst 0, 1) := by decide +kernel
theorem dX0_size_18 : decode cX0_size 18 = .ok (.ireturn, 1) := by decide +kernel
theorem dX0_letterAt_0 : decode cX0_letterAt 0 = .ok (.aload_n 0, 1) := by decide +kernel
theorem dX0_letterAt_1 : decode cX0_letterAt 1 = .ok (.iload_n 1, 1) := by decide +kernel
theorem dX0_letterAt_2 : decode cX0_letterAt 2 = .ok (.iload_n 2, 1) := by decide +kernel
theorem dX0_letterAt_3 : decode cX0_letterAt 3 = .ok (.invokevirtual 27, 3) := by decide +kernel
theorem dX0_letterAt_6 : decode cX0_letterAt 6 = .ok (.ifCond .eq 17, 3) := by decide +kernel
theorem dX0_letterAt_9 : decode cX0_letterAt 9 = .ok (.aload_n 0, 1) := by decide +kernel
theorem dX0_letterAt_10 : decode cX0_letterAt 10 = .ok (.getfield 9, 3) := by decide +kernel
theorem dX0_letterAt_13 : decode cX0_letterAt 13 = .ok (.iload_n 1, 1) := by decide +kernel
theorem dX0_letterAt_14 : decode cX0_letterAt 14 = .ok (.bipush 10, 2) := by decide +kernel
theorem dX0_letterAt_16 : decode cX0_letterAt 16 = .ok (.imul, 1) := by decide +kernel
theorem dX0_letterAt_17 : decode cX0_letterAt 17 = .ok (.iload_n 2, 1) := by decide +kernel
theorem dX0_letterAt_18 : decode cX0_letterAt 18 = .ok (.iadd, 1) := by decide +kernel
theorem dX0_letterAt_19 : decode cX0_letterAt 19 = .ok (.caload, 1) := by decide +kernel
theorem dX0_letterAt_20 : decode cX0_letterAt 20 = .ok (.goto 4, 3) := by decide +kernel
theorem dX0_letterAt_23 : decode cX0_letterAt 23 = .ok (.iconst 0, 1) := by decide +kernel
theorem dX0_letterAt_24 : decode cX0_letterAt 24 = .ok (.ireturn, 1) := by decide +kernel
theorem dX0_setLetter_0 : decode cX0_setLetter 0 = .ok (.aload_n 0, 1) := by decide +kernel
theorem dX0_setLetter_1 : decode cX0_setLetter 1 = .ok (.iload_n 1, 1) := by decide +kernel
theorem dX0_setLetter_2 : decode cX0_setLetter 2 = .ok (.iload_n 2, 1) := by decide +kernel
theorem dX0_setLetter_3 : decode cX0_setLetter 3 = .ok (.invokevirtual 27, 3) := by decide +kernel
theorem dX0_setLetter_6 : decode cX0_setLetter 6 = .ok (.ifCond .eq 15, 3) := by decide +kernel
theorem dX0_setLetter_9 : decode cX0_setLetter 9 = .ok (.aload_n 0, 1) := by decide +kernel
theorem dX0_setLetter_10 : decode cX0_setLetter 10 = .ok (.getfield 9, 3) := by decide +kernel
theorem dX0_setLetter_13 : decode cX0_setLetter 13 = .ok (.iload_n 1, 1) := by decide +kernel
theorem dX0_setLetter_14 : decode cX0_setLetter 14 = .ok (.bipush 10, 2) := by decide +kernel
theorem dX0_setLetter_16 : decode cX0_setLetter 16 = .ok (.imul, 1) := by decide +kernel
theorem dX0_setLetter_17 : decode cX0_setLetter 17 = .ok (.iload_n 2, 1) := by decide +kernel
theorem dX0_setLetter_18 : decode cX0_setLetter 18 = .ok (.iadd, 1) := by decide +kernel
theorem dX0_setLetter_19 : decode cX0_setLetter 19 = .ok (.iload_n 3, 1) := by decide +kernel
theorem dX0_setLetter_20 : decode cX0_setLetter 20 = .ok (.castore, 1) := by decide +kernel
theorem dX0_setLetter_21 : decode cX0_setLetter 21 = .ok (.return_, 1) := by decide +kernel
theorem dX0_openLine_0 : decode cX0_openLine 0 = .ok (.aload_n 0, 1) := by decide +kernel
theorem dX0_openLine_1 : decode cX0_openLine 1 = .ok (.getfield 19, 3) := by decide +kernel
theorem dX0_openLine_4 : decode cX0_openLine 4 = .ok (.bipush 8, 2) := by decide +kernel
theorem dX0_openLine_6 : decode cX0_openLine 6 = .ok (.if_icmp .ge 23, 3) := by decide +kernel
theorem dX0_openLine_9 : decode cX0_openLine 9 = .ok (.aload_n 0, 1) := by decide +kernel
theorem dX0_openLine_10 : decode cX0_openLine 10 = .ok (.getfield 15, 3) := by decide +kernel
theorem dX0_openLine_13 : decode cX0_openLine 13 = .ok (.aload_n 0, 1) := by decide +kernel
theorem dX0_openLine_14 : decode cX0_openLine 14 = .ok (.getfield 19, 3) := by decide +kernel
theorem dX0_openLine_17 : decode cX0_openLine 17 = .ok (.iconst 0, 1) := by decide +kernel
theorem dX0_openLine_18 : decode cX0_openLine 18 = .ok (.iastore, 1) := by decide +kernel
theorem dX0_openLine_19 : decode cX0_openLine 19 = .ok (.aload_n 0, 1) := by decide +kernel
theorem dX0_openLine_20 : decode cX0_openLine 20 = .ok (.dup, 1) := by decide +kernel
theorem dX0_openLine_21 : decode cX0_openLine 21 = .ok (.getfield 19, 3) := by decide +kernel
theorem dX0_openLine_24 : decode cX0_openLine 24 = .ok (.iconst 1, 1) := by decide +kernel
theorem dX0_openLine_25 : decode cX0_openLine 25 = .ok (.iadd, 1) := by decide +kernel
theorem dX0_openLine_26 : decode cX0_openLine 26 = .ok (.putfield 19, 3) := by decide +kernel
theorem dX0_openLine_29 : decode cX0_openLine 29 = .ok (.return_, 1) := by decide +kernel
theorem dX0_putLetter_0 : decode cX0_putLetter 0 = .ok (.aload_n 0, 1) := by decide +kernel
theorem dX0_putLetter_1 : decode cX0_putLetter 1 = .ok (.iload_n 1, 1) := by decide +kernel
theorem dX0_putLetter_2 : decode cX0_putLetter 2 = .ok (.invokevirtual 23, 3) := by decide +kernel
theorem dX0_putLetter_5 : decode cX0_putLetter 5 = .ok (.ifCond .eq 38, 3) := by decide +kernel
theorem dX0_putLetter_8 : decode cX0_putLetter 8 = .ok (.aload_n 0, 1) := by decide +kernel
theorem dX0_putLetter_9 : decode cX0_putLetter 9 = .ok (.getfield 15, 3) := by decide +kernel
theorem dX0_putLetter_12 : decode cX0_putLetter 12 = .ok (.iload_n 1, 1) := by decide +kernel
theorem dX0_putLetter_13 : decode cX0_putLetter 13 = .ok (.iaload, 1) := by decide +kernel
theorem dX0_putLetter_14 : decode cX0_putLetter 14 = .ok (.bipush 10, 2) := by decide +kernel
theorem dX0_putLetter_16 : decode cX0_putLetter 16 = .ok (.if_icmp .ge 27, 3) := by decide +kernel
theorem dX0_putLetter_19 : decode cX0_putLetter 19 = .ok (.aload_n 0, 1) := by decide +kernel
theorem dX0_putLetter_20 : decode cX0_putLetter 20 = .ok (.getfield 15, 3) := by decide +kernel
theorem dX0_putLetter_23 : decode cX0_putLetter 23 = .ok (.iload_n 1, 1) := by decide +kernel
theorem dX0_putLetter_24 : decode cX0_putLetter 24 = .ok (.dup2, 1) := by decide +kernel
theorem dX0_putLetter_25 : decode cX0_putLetter 25 = .ok (.iaload, 1) := by decide +kernel
theorem dX0_putLetter_26 : decode cX0_putLetter 26 = .ok (.iconst 1, 1) := by decide +kernel
theorem dX0_putLetter_27 : decode cX0_putLetter 27 = .ok (.iadd, 1) := by decide +kernel
theorem dX0_putLetter_28 : decode cX0_putLetter 28 = .ok (.iastore, 1) := by decide +kernel
theorem dX0_putLetter_29 : decode cX0_putLetter 29 = .ok (.aload_n 0, 1) := by decide +kernel
theorem dX0_putLetter_30 : decode cX0_putLetter 30 = .ok (.iload_n 1, 1) := by decide +kernel
theorem dX0_putLetter_31 : decode cX0_putLetter 31 = .ok (.aload_n 0, 1) := by decide +kernel
theorem dX0_putLetter_32 : decode cX0_putLetter 32 = .ok (.getfield 15, 3) := by decide +kernel
theorem dX0_putLetter_35 : decode cX0_putLetter 35 = .ok (.iload_n 1, 1) := by decide +kernel
theorem dX0_putLetter_36 : decode cX0_putLetter 36 = .ok (.iaload, 1) := by decide +kernel
theorem dX0_putLetter_37 : decode cX0_putLetter 37 = .ok (.iconst 1, 1) := by decide +kernel
theorem dX0_putLetter_38 : decode cX0_putLetter 38 = .ok (.isub, 1) := by decide +kernel
theorem dX0_putLetter_39 : decode cX0_putLetter 39 = .ok (.iload_n 2, 1) := by decide +kernel
theorem dX0_putLetter_40 : decode cX0_putLetter 40 = .ok (.invokevirtual 31, 3) := by decide +kernel
theorem dX0_putLetter_43 : decode cX0_putLetter 43 = .ok (.return_, 1) := by decide +kernel
theorem dX0_removeLine_0 : decode cX0_removeLine 0 = .ok (.aload_n 0, 1) := by decide +kernel
theorem dX0_removeLine_1 : decode cX0_removeLine 1 = .ok (.iload_n 1, 1) := by decide +kernel
theorem dX0_removeLine_2 : decode cX0_removeLine 2 = .ok (.invokevirtual 23, 3) := by decide +kernel
theorem dX0_removeLine_5 : decode cX0_removeLine 5 = .ok (.ifCond .eq 39, 3) := by decide +kernel
theorem dX0_removeLine_8 : decode cX0_removeLine 8 = .ok (.iload_n 1, 1) := by decide +kernel
theorem dX0_removeLine_9 : decode cX0_removeLine 9 = .ok (.iconst 1, 1) := by decide +kernel
theorem dX0_removeLine_10 : decode cX0_removeLine 10 = .ok (.iadd, 1) := by decide +kernel
theorem dX0_removeLine_11 : decode cX0_removeLine 11 = .ok (.istore_n 2, 1) := by decide +kernel
theorem dX0_removeLine_12 : decode cX0_removeLine 12 = .ok (.iload_n 2, 1) := by decide +kernel
theorem dX0_removeLine_13 : decode cX0_removeLine 13 = .ok (.aload_n 0, 1) := by decide +kernel
theorem dX0_removeLine_14 : decode cX0_removeLine 14 = .ok (.getfield 19, 3) := by decide +kernel
theorem dX0_removeLine_17 : decode cX0_removeLine 17 = .ok (.if_icmp .ge 17, 3) := by decide +kernel
theorem dX0_removeLine_20 : decode cX0_removeLine 20 = .ok (.aload_n 0, 1) := by decide +kernel
theorem dX0_removeLine_21 : decode cX0_removeLine 21 = .ok (.iload_n 2, 1) := by decide +kernel
theorem dX0_removeLine_22 : decode cX0_removeLine 22 = .ok (.iconst 1, 1) := by decide +kernel
theorem dX0_removeLine_23 : decode cX0_removeLine 23 = .ok (.isub, 1) := by decide +kernel
theorem dX0_removeLine_24 : decode cX0_removeLine 24 = .ok (.iload_n 2, 1) := by decide +kernel
theorem dX0_removeLine_25 : decode cX0_removeLine 25 = .ok (.invokevirtual 35, 3) := by decide +kernel
theorem dX0_removeLine_28 : decode cX0_removeLine 28 = .ok (.iinc 2 1, 3) := by decide +kernel
theorem dX0_removeLine_31 : decode cX0_removeLine 31 = .ok (.goto (-19), 3) := by decide +kernel
theorem dX0_removeLine_34 : decode cX0_removeLine 34 = .ok (.aload_n 0, 1) := by decide +kernel
theorem dX0_removeLine_35 : decode cX0_removeLine 35 = .ok (.dup, 1) := by decide +kernel
theorem dX0_removeLine_36 : decode cX0_removeLine 36 = .ok (.getfield 19, 3) := by decide +kernel
theorem dX0_removeLine_39 : decode cX0_removeLine 39 = .ok (.iconst 1, 1) := by decide +kernel
theorem dX0_removeLine_40 : decode cX0_removeLine 40 = .ok (.isub, 1) := by decide +kernel
theorem dX0_removeLine_41 : decode cX0_removeLine 41 = .ok (.putfield 19, 3) := by decide +kernel
theorem dX0_removeLine_44 : decode cX0_removeLine 44 = .ok (.return_, 1) := by decide +kernel
theorem dX0_exchangeLines_0 : decode cX0_exchangeLines 0 = .ok (.aload_n 0, 1) := by decide +kernel
theorem dX0_exchangeLines_1 : decode cX0_exchangeLines 1 = .ok (.iload_n 1, 1) := by decide +kernel
theorem dX0_exchangeLines_2 : decode cX0_exchangeLines 2 = .ok (.invokevirtual 23, 3) := by decide +kernel
theorem dX0_exchangeLines_5 : decode cX0_exchangeLines 5 = .ok (.ifCond .eq 99, 3) := by decide +kernel
theorem dX0_exchangeLines_8 : decode cX0_exchangeLines 8 = .ok (.aload_n 0, 1) := by decide +kernel
theorem dX0_exchangeLines_9 : decode cX0_exchangeLines 9 = .ok (.iload_n 2, 1) := by decide +kernel
theorem dX0_exchangeLines_10 : decode cX0_exchangeLines 10 = .ok (.invokevirtual 23, 3) := by decide +kernel
theorem dX0_exchangeLines_13 : decode cX0_exchangeLines 13 = .ok (.ifCond .eq 91, 3) := by decide +kernel
theorem dX0_exchangeLines_16 : decode cX0_exchangeLines 16 = .ok (.iconst 0, 1) := by decide +kernel
theorem dX0_exchangeLines_17 : decode cX0_exchangeLines 17 = .ok (.istore_n 3, 1) := by decide +kernel
theorem dX0_exchangeLines_18 : decode cX0_exchangeLines 18 = .ok (.iload_n 3, 1) := by decide +kernel
theorem dX0_exchangeLines_19 : decode cX0_exchangeLines 19 = .ok (.bipush 10, 2) := by decide +kernel
theorem dX0_exchangeLines_21 : decode cX0_exchangeLines 21 = .ok (.if_icmp .ge 57, 3) := by decide +kernel
theorem dX0_exchangeLines_24 : decode cX0_exchangeLines 24 = .ok (.aload_n 0, 1) := by decide +kernel
theorem dX0_exchangeLines_25 : decode cX0_exchangeLines 25 = .ok (.getfield 9, 3) := by decide +kernel
theorem dX0_exchangeLines_28 : decode cX0_exchangeLines 28 = .ok (.iload_n 1, 1) := by decide +kernel
theorem dX0_exchangeLines_29 : decode cX0_exchangeLines 29 = .ok (.bipush 10, 2) := by decide +kernel
theorem dX0_exchangeLines_31 : decode cX0_exchangeLines 31 = .ok (.imul, 1) := by decide +kernel
theorem dX0_exchangeLines_32 : decode cX0_exchangeLines 32 = .ok (.iload_n 3, 1) := by decide +kernel
theorem dX0_exchangeLines_33 : decode cX0_exchangeLines 33 = .ok (.iadd, 1) := by decide +kernel
theorem dX0_exchangeLines_34 : decode cX0_exchangeLines 34 = .ok (.caload, 1) := by decide +kernel
theorem dX0_exchangeLines_35 : decode cX0_exchangeLines 35 = .ok (.istore 4, 2) := by decide +kernel
theorem dX0_exchangeLines_37 : decode cX0_exchangeLines 37 = .ok (.aload_n 0, 1) := by decide +kernel
theorem dX0_exchangeLines_38 : decode cX0_exchangeLines 38 = .ok (.getfield 9, 3) := by decide +kernel
theorem dX0_exchangeLines_41 : decode cX0_exchangeLines 41 = .ok (.iload_n 1, 1) := by decide +kernel
theorem dX0_exchangeLines_42 : decode cX0_exchangeLines 42 = .ok (.bipush 10, 2) := by decide +kernel
theorem dX0_exchangeLines_44 : decode cX0_exchangeLines 44 = .ok (.imul, 1) := by decide +kernel
theorem dX0_exchangeLines_45 : decode cX0_exchangeLines 45 = .ok (.iload_n 3, 1) := by decide +kernel
theorem dX0_exchangeLines_46 : decode cX0_exchangeLines 46 = .ok (.iadd, 1) := by decide +kernel
theorem dX0_exchangeLines_47 : decode cX0_exchangeLines 47 = .ok (.aload_n 0, 1) := by decide +kernel
theorem dX0_exchangeLines_48 : decode cX0_exchangeLines 48 = .ok (.getfield 9, 3) := by decide +kernel
theorem dX0_exchangeLines_51 : decode cX0_exchangeLines 51 = .ok (.iload_n 2, 1) := by decide +kernel
theorem dX0_exchangeLines_52 : decode cX0_exchangeLines 52 = .ok (.bipush 10, 2) := by decide +kernel
theorem dX0_exchangeLines_54 : decode cX0_exchangeLines 54 = .ok (.imul, 1) := by decide +kernel
theorem dX0_exchangeLines_55 : decode cX0_exchangeLines 55 = .ok (.iload_n 3, 1) := by decide +kernel
theorem dX0_exchangeLines_56 : decode cX0_exchangeLines 56 = .ok (.iadd, 1) := by decide +kernel
theorem dX0_exchangeLines_57 : decode cX0_exchangeLines 57 = .ok (.caload, 1) := by decide +kernel
theorem dX0_exchangeLines_58 : decode cX0_exchangeLines 58 = .ok (.castore, 1) := by decide +kernel
theorem dX0_exchangeLines_59 : decode cX0_exchangeLines 59 = .ok (.aload_n 0, 1) := by decide +kernel
theorem dX0_exchangeLines_60 : decode cX0_exchangeLines 60 = .ok (.getfield 9, 3) := by decide +kernel
theorem dX0_exchangeLines_63 : decode cX0_exchangeLines 63 = .ok (.iload_n 2, 1) := by decide +kernel
theorem dX0_exchangeLines_64 : decode cX0_exchangeLines 64 = .ok (.bipush 10, 2) := by decide +kernel
theorem dX0_exchangeLines_66 : decode cX0_exchangeLines 66 = .ok (.imul, 1) := by decide +kernel
theorem dX0_exchangeLines_67 : decode cX0_exchangeLines 67 = .ok (.iload_n 3, 1) := by decide +kernel
theorem dX0_exchangeLines_68 : decode cX0_exchangeLines 68 = .ok (.iadd, 1) := by decide +kernel
theorem dX0_exchangeLines_69 : decode cX0_exchangeLines 69 = .ok (.iload 4, 2) := by decide +kernel
theorem dX0_exchangeLines_71 : decode cX0_exchangeLines 71 = .ok (.castore, 1) := by decide +kernel
theorem dX0_exchangeLines_72 : decode cX0_exchangeLines 72 = .ok (.iinc 3 1, 3) := by decide +kernel
theorem dX0_exchangeLines_75 : decode cX0_exchangeLines 75 = .ok (.goto (-57), 3) := by decide +kernel
theorem dX0_exchangeLines_78 : decode cX0_exchangeLines 78 = .ok (.aload_n 0, 1) := by decide +kernel
theorem dX0_exchangeLines_79 : decode cX0_exchangeLines 79 = .ok (.getfield 15, 3) := by decide +kernel
theorem dX0_exchangeLines_82 : decode cX0_exchangeLines 82 = .ok (.iload_n 1, 1) := by decide +kernel
theorem dX0_exchangeLines_83 : decode cX0_exchangeLines 83 = .ok (.iaload, 1) := by decide +kernel
theorem dX0_exchangeLines_84 : decode cX0_exchangeLines 84 = .ok (.istore_n 3, 1) := by decide +kernel
theorem dX0_exchangeLines_85 : decode cX0_exchangeLines 85 = .ok (.aload_n 0, 1) := by decide +kernel
theorem dX0_exchangeLines_86 : decode cX0_exchangeLines 86 = .ok (.getfield 15, 3) := by decide +kernel
theorem dX0_exchangeLines_89 : decode cX0_exchangeLines 89 = .ok (.iload_n 1, 1) := by decide +kernel
theorem dX0_exchangeLines_90 : decode cX0_exchangeLines 90 = .ok (.aload_n 0, 1) := by decide +kernel
theorem dX0_exchangeLines_91 : decode cX0_exchangeLines 91 = .ok (.getfield 15, 3) := by decide +kernel
theorem dX0_exchangeLines_94 : decode cX0_exchangeLines 94 = .ok (.iload_n 2, 1) := by decide +kernel
theorem dX0_exchangeLines_95 : decode cX0_exchangeLines 95 = .ok (.iaload, 1) := by decide +kernel
theorem dX0_exchangeLines_96 : decode cX0_exchangeLines 96 = .ok (.iastore, 1) := by decide +kernel
theorem dX0_exchangeLines_97 : decode cX0_exchangeLines 97 = .ok (.aload_n 0, 1) := by decide +kernel
theorem dX0_exchangeLines_98 : decode cX0_exchangeLines 98 = .ok (.getfield 15, 3) := by decide +kernel
theorem dX0_exchangeLines_101 : decode cX0_exchangeLines 101 = .ok (.iload_n 2, 1) := by decide +kernel
theorem dX0_exchangeLines_102 : decode cX0_exchangeLines 102 = .ok (.iload_n 3, 1) := by decide +kernel
theorem dX0_exchangeLines_103 : decode cX0_exchangeLines 103 = .ok (.iastore, 1) := by decide +kernel
theorem dX0_exchangeLines_104 : decode cX0_exchangeLines 104 = .ok (.return_, 1) := by decide +kernel
theorem dX0_reverseLine_0 : decode cX0_reverseLine 0 = .ok (.aload_n 0, 1) := by decide +kernel
theorem dX0_reverseLine_1 : decode cX0_reverseLine 1 = .ok (.iload_n 1, 1) := by decide +kernel
theorem dX0_reverseLine_2 : decode cX0_reverseLine 2 = .ok (.invokevirtual 39, 3) := by decide +kernel
theorem dX0_reverseLine_5 : decode cX0_reverseLine 5 = .ok (.iconst 1, 1) := by decide +kernel
theorem dX0_reverseLine_6 : decode cX0_reverseLine 6 = .ok (.isub, 1) := by decide +kernel
theorem dX0_reverseLine_7 : decode cX0_reverseLine 7 = .ok (.istore_n 2, 1) := by decide +kernel
theorem dX0_reverseLine_8 : decode cX0_reverseLine 8 = .ok (.iconst 0, 1) := by decide +kernel
theorem dX0_reverseLine_9 : decode cX0_reverseLine 9 = .ok (.istore_n 3, 1) := by decide +kernel
theorem dX0_reverseLine_10 : decode cX0_reverseLine 10 = .ok (.iload_n 3, 1) := by decide +kernel
theorem dX0_reverseLine_11 : decode cX0_reverseLine 11 = .ok (.iload_n 2, 1) := by decide +kernel
theorem dX0_reverseLine_12 : decode cX0_reverseLine 12 = .ok (.iload_n 3, 1) := by decide +kernel
theorem dX0_reverseLine_13 : decode cX0_reverseLine 13 = .ok (.isub, 1) := by decide +kernel
theorem dX0_reverseLine_14 : decode cX0_reverseLine 14 = .ok (.if_icmp .ge 41, 3) := by decide +kernel
theorem dX0_reverseLine_17 : decode cX0_reverseLine 17 = .ok (.aload_n 0, 1) := by decide +kernel
theorem dX0_reverseLine_18 : decode cX0_reverseLine 18 = .ok (.iload_n 1, 1) := by decide +kernel
theorem dX0_reverseLine_19 : decode cX0_reverseLine 19 = .ok (.iload_n 3, 1) := by decide +kernel
theorem dX0_reverseLine_20 : decode cX0_reverseLine 20 = .ok (.invokevirtual 43, 3) := by decide +kernel
theorem dX0_reverseLine_23 : decode cX0_reverseLine 23 = .ok (.istore 4, 2) := by decide +kernel
theorem dX0_reverseLine_25 : decode cX0_reverseLine 25 = .ok (.aload_n 0, 1) := by decide +kernel
theorem dX0_reverseLine_26 : decode cX0_reverseLine 26 = .ok (.iload_n 1, 1) := by decide +kernel
theorem dX0_reverseLine_27 : decode cX0_reverseLine 27 = .ok (.iload_n 3, 1) := by decide +kernel
theorem dX0_reverseLine_28 : decode cX0_reverseLine 28 = .ok (.aload_n 0, 1) := by decide +kernel
theorem dX0_reverseLine_29 : decode cX0_reverseLine 29 = .ok (.iload_n 1, 1) := by decide +kernel
theorem dX0_reverseLine_30 : decode cX0_reverseLine 30 = .ok (.iload_n 2, 1) := by decide +kernel
theorem dX0_reverseLine_31 : decode cX0_reverseLine 31 = .ok (.iload_n 3, 1) := by decide +kernel
theorem dX0_reverseLine_32 : decode cX0_reverseLine 32 = .ok (.isub, 1) := by decide +kernel
theorem dX0_reverseLine_33 : decode cX0_reverseLine 33 = .ok (.invokevirtual 43, 3) := by decide +kernel
theorem dX0_reverseLine_36 : decode cX0_reverseLine 36 = .ok (.invokevirtual 31, 3) := by decide +kernel
theorem dX0_reverseLine_39 : decode cX0_reverseLine 39 = .ok (.aload_n 0, 1) := by decide +kernel
theorem dX0_reverseLine_40 : decode cX0_reverseLine 40 = .ok (.iload_n 1, 1) := by decide +kernel
theorem dX0_reverseLine_41 : decode cX0_reverseLine 41 = .ok (.iload_n 2, 1) := by decide +kernel
theorem dX0_reverseLine_42 : decode cX0_reverseLine 42 = .ok (.iload_n 3, 1) := by decide +kernel
theorem dX0_reverseLine_43 : decode cX0_reverseLine 43 = .ok (.isub, 1) := by decide +kernel
theorem dX0_reverseLine_44 : decode cX0_reverseLine 44 = .ok (.iload 4, 2) := by decide +kernel
theorem dX0_reverseLine_46 : decode cX0_reverseLine 46 = .ok (.invokevirtual 31, 3) := by decide +kernel
theorem dX0_reverseLine_49 : decode cX0_reverseLine 49 = .ok (.iinc 3 1, 3) := by decide +kernel
theorem dX0_reverseLine_52 : decode cX0_reverseLine 52 = .ok (.goto (-42), 3) := by decide +kernel
theorem dX0_reverseLine_55 : decode cX0_reverseLine 55 = .ok (.return_, 1) := by decide +kernel
theorem dX0_copyFrom_0 : decode cX0_copyFrom 0 = .ok (.aload_n 1, 1) := by decide +kernel
theorem dX0_copyFrom_1 : decode cX0_copyFrom 1 = .ok (.getfield 9, 3) := by decide +kernel
theorem dX0_copyFrom_4 : decode cX0_copyFrom 4 = .ok (.iconst 0, 1) := by decide +kernel
theorem dX0_copyFrom_5 : decode cX0_copyFrom 5 = .ok (.aload_n 0, 1) := by decide +kernel
theorem dX0_copyFrom_6 : decode cX0_copyFrom 6 = .ok (.getfield 9, 3) := by decide +kernel
theorem dX0_copyFrom_9 : decode cX0_copyFrom 9 = .ok (.iconst 0, 1) := by decide +kernel
theorem dX0_copyFrom_10 : decode cX0_copyFrom 10 = .ok (.bipush 80, 2) := by decide +kernel
theorem dX0_copyFrom_12 : decode cX0_copyFrom 12 = .ok (.invokestatic 47, 3) := by decide +kernel
theorem dX0_copyFrom_15 : decode cX0_copyFrom 15 = .ok (.aload_n 1, 1) := by decide +kernel
theorem dX0_copyFrom_16 : decode cX0_copyFrom 16 = .ok (.getfield 15, 3) := by decide +kernel
theorem dX0_copyFrom_19 : decode cX0_copyFrom 19 = .ok (.iconst 0, 1) := by decide +kernel
theorem dX0_copyFrom_20 : decode cX0_copyFrom 20 = .ok (.aload_n 0, 1) := by decide +kernel
theorem dX0_copyFrom_21 : decode cX0_copyFrom 21 = .ok (.getfield 15, 3) := by decide +kernel
theorem dX0_copyFrom_24 : decode cX0_copyFrom 24 = .ok (.iconst 0, 1) := by decide +kernel
theorem dX0_copyFrom_25 : decode cX0_copyFrom 25 = .ok (.bipush 8, 2) := by decide +kernel
theorem dX0_copyFrom_27 : decode cX0_copyFrom 27 = .ok (.invokestatic 47, 3) := by decide +kernel
theorem dX0_copyFrom_30 : decode cX0_copyFrom 30 = .ok (.aload_n 0, 1) := by decide +kernel
theorem dX0_copyFrom_31 : decode cX0_copyFrom 31 = .ok (.aload_n 1, 1) := by decide +kernel
theorem dX0_copyFrom_32 : decode cX0_copyFrom 32 = .ok (.getfield 19, 3) := by decide +kernel
theorem dX0_copyFrom_35 : decode cX0_copyFrom 35 = .ok (.putfield 19, 3) := by decide +kernel
theorem dX0_copyFrom_38 : decode cX0_copyFrom 38 = .ok (.return_, 1) := by decide +kernel
theorem dX0_sameLetters_0 : decode cX0_sameLetters 0 = .ok (.iconst 0, 1) := by decide +kernel
theorem dX0_sameLetters_1 : decode cX0_sameLetters 1 = .ok (.istore 5, 2) := by decide +kernel
theorem dX0_sameLetters_3 : decode cX0_sameLetters 3 = .ok (.iload 5, 2) := by decide +kernel
theorem dX0_sameLetters_5 : decode cX0_sameLetters 5 = .ok (.bipush 10, 2) := by decide +kernel
theorem dX0_sameLetters_7 : decode cX0_sameLetters 7 = .ok (.if_icmp .ge 43, 3) := by decide +kernel
theorem dX0_sameLetters_10 : decode cX0_sameLetters 10 = .ok (.aload_n 0, 1) := by decide +kernel
theorem dX0_sameLetters_11 : decode cX0_sameLetters 11 = .ok (.iload_n 1, 1) := by decide +kernel
theorem dX0_sameLetters_12 : decode cX0_sameLetters 12 = .ok (.iload_n 2, 1) := by decide +kernel
theorem dX0_sameLetters_13 : decode cX0_sameLetters 13 = .ok (.iload 5, 2) := by decide +kernel
theorem dX0_sameLetters_15 : decode cX0_sameLetters 15 = .ok (.iadd, 1) := by decide +kernel
theorem dX0_sameLetters_16 : decode cX0_sameLetters 16 = .ok (.invokevirtual 43, 3) := by decide +kernel
theorem dX0_sameLetters_19 : decode cX0_sameLetters 19 = .ok (.istore 6, 2) := by decide +kernel
theorem dX0_sameLetters_21 : decode cX0_sameLetters 21 = .ok (.iload 6, 2) := by decide +kernel
theorem dX0_sameLetters_23 : decode cX0_sameLetters 23 = .ok (.ifCond .eq 18, 3) := by decide +kernel
theorem dX0_sameLetters_26 : decode cX0_sameLetters 26 = .ok (.iload 6, 2) := by decide +kernel
theorem dX0_sameLetters_28 : decode cX0_sameLetters 28 = .ok (.aload_n 0, 1) := by decide +kernel
theorem dX0_sameLetters_29 : decode cX0_sameLetters 29 = .ok (.iload_n 3, 1) := by decide +kernel
theorem dX0_sameLetters_30 : decode cX0_sameLetters 30 = .ok (.iload 4, 2) := by decide +kernel
theorem dX0_sameLetters_32 : decode cX0_sameLetters 32 = .ok (.iload 5, 2) := by decide +kernel
theorem dX0_sameLetters_34 : decode cX0_sameLetters 34 = .ok (.iadd, 1) := by decide +kernel
theorem dX0_sameLetters_35 : decode cX0_sameLetters 35 = .ok (.invokevirtual 43, 3) := by decide +kernel
theorem dX0_sameLetters_38 : decode cX0_sameLetters 38 = .ok (.if_icmp .eq 6, 3) := by decide +kernel
theorem dX0_sameLetters_41 : decode cX0_sameLetters 41 = .ok (.iload 5, 2) := by decide +kernel
theorem dX0_sameLetters_43 : decode cX0_sameLetters 43 = .ok (.ireturn, 1) := by decide +kernel
theorem dX0_sameLetters_44 : decode cX0_sameLetters 44 = .ok (.iinc 5 1, 3) := by decide +kernel
theorem dX0_sameLetters_47 : decode cX0_sameLetters 47 = .ok (.goto (-44), 3) := by decide +kernel
theorem dX0_sameLetters_50 : decode cX0_sameLetters 50 = .ok (.bipush 10, 2) := by decide +kernel
theorem dX0_sameLetters_52 : decode cX0_sameLetters 52 = .ok (.ireturn, 1) := by decide +kernel
theorem dX0_comesBefore_0 : decode cX0_comesBefore 0 = .ok (.iconst 0, 1) := by decide +kernel
theorem dX0_comesBefore_1 : decode cX0_comesBefore 1 = .ok (.istore 5, 2) := by decide +kernel
theorem dX0_comesBefore_3 : decode cX0_comesBefore 3 = .ok (.iload 5, 2) := by decide +kernel
theorem dX0_comesBefore_5 : decode cX0_comesBefore 5 = .ok (.bipush 10, 2) := by decide +kernel
theorem dX0_comesBefore_7 : decode cX0_comesBefore 7 = .ok (.if_icmp .ge 52, 3) := by decide +kernel
theorem dX0_comesBefore_10 : decode cX0_comesBefore 10 = .ok (.aload_n 0, 1) := by decide +kernel
theorem dX0_comesBefore_11 : decode cX0_comesBefore 11 = .ok (.iload_n 1, 1) := by decide +kernel
theorem dX0_comesBefore_12 : decode cX0_comesBefore 12 = .ok (.iload_n 2, 1) := by decide +kernel
theorem dX0_comesBefore_13 : decode cX0_comesBefore 13 = .ok (.iload 5, 2) := by decide +kernel
theorem dX0_comesBefore_15 : decode cX0_comesBefore 15 = .ok (.iadd, 1) := by decide +kernel
theorem dX0_comesBefore_16 : decode cX0_comesBefore 16 = .ok (.invokevirtual 43, 3) := by decide +kernel
theorem dX0_comesBefore_19 : decode cX0_comesBefore 19 = .ok (.istore 6, 2) := by decide +kernel
theorem dX0_comesBefore_21 : decode cX0_comesBefore 21 = .ok (.aload_n 0, 1) := by decide +kernel
theorem dX0_comesBefore_22 : decode cX0_comesBefore 22 = .ok (.iload_n 3, 1) := by decide +kernel
theorem dX0_comesBefore_23 : decode cX0_comesBefore 23 = .ok (.iload 4, 2) := by decide +kernel
theorem dX0_comesBefore_25 : decode cX0_comesBefore 25 = .ok (.iload 5, 2) := by decide +kernel
theorem dX0_comesBefore_27 : decode cX0_comesBefore 27 = .ok (.iadd, 1) := by decide +kernel
theorem dX0_comesBefore_28 : decode cX0_comesBefore 28 = .ok (.invokevirtual 43, 3) := by decide +kernel
theorem dX0_comesBefore_31 : decode cX0_comesBefore 31 = .ok (.istore 7, 2) := by decide +kernel
theorem dX0_comesBefore_33 : decode cX0_comesBefore 33 = .ok (.iload 6, 2) := by decide +kernel
theorem dX0_comesBefore_35 : decode cX0_comesBefore 35 = .ok (.iload 7, 2) := by decide +kernel
theorem dX0_comesBefore_37 : decode cX0_comesBefore 37 = .ok (.if_icmp .eq 16, 3) := by decide +kernel
theorem dX0_comesBefore_40 : decode cX0_comesBefore 40 = .ok (.iload 6, 2) := by decide +kernel
theorem dX0_comesBefore_42 : decode cX0_comesBefore 42 = .ok (.iload 7, 2) := by decide +kernel
theorem dX0_comesBefore_44 : decode cX0_comesBefore 44 = .ok (.if_icmp .ge 7, 3) := by decide +kernel
theorem dX0_comesBefore_47 : decode cX0_comesBefore 47 = .ok (.iconst 1, 1) := by decide +kernel
theorem dX0_comesBefore_48 : decode cX0_comesBefore 48 = .ok (.goto 4, 3) := by decide +kernel
theorem dX0_comesBefore_51 : decode cX0_comesBefore 51 = .ok (.iconst 0, 1) := by decide +kernel
theorem dX0_comesBefore_52 : decode cX0_comesBefore 52 = .ok (.ireturn, 1) := by decide +kernel
theorem dX0_comesBefore_53 : decode cX0_comesBefore 53 = .ok (.iinc 5 1, 3) := by decide +kernel
theorem dX0_comesBefore_56 : decode cX0_comesBefore 56 = .ok (.goto (-53), 3) := by decide +kernel
theorem dX0_comesBefore_59 : decode cX0_comesBefore 59 = .ok (.iload_n 1, 1) := by decide +kernel
theorem dX0_comesBefore_60 : decode cX0_comesBefore 60 = .ok (.iload_n 3, 1) := by decide +kernel
theorem dX0_comesBefore_61 : decode cX0_comesBefore 61 = .ok (.if_icmp .ge 7, 3) := by decide +kernel
theorem dX0_comesBefore_64 : decode cX0_comesBefore 64 = .ok (.iconst 1, 1) := by decide +kernel
theorem dX0_comesBefore_65 : decode cX0_comesBefore 65 = .ok (.goto 4, 3) := by decide +kernel
theorem dX0_comesBefore_68 : decode cX0_comesBefore 68 = .ok (.iconst 0, 1) := by decide +kernel
theorem dX0_comesBefore_69 : decode cX0_comesBefore 69 = .ok (.ireturn, 1) := by decide +kernel
theorem dX0_countEndingsBefore_0 : decode cX0_countEndingsBefore 0 = .ok (.iconst 0, 1) := by decide +kernel
theorem dX0_countEndingsBefore_1 : decode cX0_countEndingsBefore 1 = .ok (.istore_n 3, 1) := by decide +kernel
theorem dX0_countEndingsBefore_2 : decode cX0_countEndingsBefore 2 = .ok (.iconst 0, 1) := by decide +kernel
theorem dX0_countEndingsBefore_3 : decode cX0_countEndingsBefore 3 = .ok (.istore 4, 2) := by decide +kernel
theorem dX0_countEndingsBefore_5 : decode cX0_countEndingsBefore 5 = .ok (.iload 4, 2) := by decide +kernel
theorem dX0_countEndingsBefore_7 : decode cX0_countEndingsBefore 7 = .ok (.aload_n 0, 1) := by decide +kernel
theorem dX0_countEndingsBefore_8 : decode cX0_countEndingsBefore 8 = .ok (.getfield 19, 3) := by decide +kernel
theorem dX0_countEndingsBefore_11 : decode cX0_countEndingsBefore 11 = .ok (.if_icmp .ge 45, 3) := by decide +kernel
theorem dX0_countEndingsBefore_14 : decode cX0_countEndingsBefore 14 = .ok (.iconst 0, 1) := by decide +kernel
theorem dX0_countEndingsBefore_15 : decode cX0_countEndingsBefore 15 = .ok (.istore 5, 2) := by decide +kernel
theorem dX0_countEndingsBefore_17 : decode cX0_countEndingsBefore 17 = .ok (.iload 5, 2) := by decide +kernel
theorem dX0_countEndingsBefore_19 : decode cX0_countEndingsBefore 19 = .ok (.aload_n 0, 1) := by decide +kernel
theorem dX0_countEndingsBefore_20 : decode cX0_countEndingsBefore 20 = .ok (.iload 4, 2) := by decide +kernel
theorem dX0_countEndingsBefore_22 : decode cX0_countEndingsBefore 22 = .ok (.invokevirtual 39, 3) := by decide +kernel
theorem dX0_countEndingsBefore_25 : decode cX0_countEndingsBefore 25 = .ok (.if_icmp .ge 25, 3) := by decide +kernel
theorem dX0_countEndingsBefore_28 : decode cX0_countEndingsBefore 28 = .ok (.aload_n 0, 1) := by decide +kernel
theorem dX0_countEndingsBefore_29 : decode cX0_countEndingsBefore 29 = .ok (.iload 4, 2) := by decide +kernel
theorem dX0_countEndingsBefore_31 : decode cX0_countEndingsBefore 31 = .ok (.iload 5, 2) := by decide +kernel
theorem dX0_countEndingsBefore_33 : decode cX0_countEndingsBefore 33 = .ok (.iload_n 1, 1) := by decide +kernel
theorem dX0_countEndingsBefore_34 : decode cX0_countEndingsBefore 34 = .ok (.iload_n 2, 1) := by decide +kernel
theorem dX0_countEndingsBefore_35 : decode cX0_countEndingsBefore 35 = .ok (.invokevirtual 53, 3) := by decide +kernel
theorem dX0_countEndingsBefore_38 : decode cX0_countEndingsBefore 38 = .ok (.ifCond .eq 6, 3) := by decide +kernel
theorem dX0_countEndingsBefore_41 : decode cX0_countEndingsBefore 41 = .ok (.iinc 3 1, 3) := by decide +kernel
theorem dX0_countEndingsBefore_44 : decode cX0_countEndingsBefore 44 = .ok (.iinc 5 1, 3) := by decide +kernel
theorem dX0_countEndingsBefore_47 : decode cX0_countEndingsBefore 47 = .ok (.goto (-30), 3) := by decide +kernel
theorem dX0_countEndingsBefore_50 : decode cX0_countEndingsBefore 50 = .ok (.iinc 4 1, 3) := by decide +kernel
theorem dX0_countEndingsBefore_53 : decode cX0_countEndingsBefore 53 = .ok (.goto (-48), 3) := by decide +kernel
theorem dX0_countEndingsBefore_56 : decode cX0_countEndingsBefore 56 = .ok (.iload_n 3, 1) := by decide +kernel
theorem dX0_countEndingsBefore_57 : decode cX0_countEndingsBefore 57 = .ok (.ireturn, 1) := by decide +kernel
theorem dX0_isSame_0 : decode cX0_isSame 0 = .ok (.aload_n 0, 1) := by decide +kernel
theorem dX0_isSame_1 : decode cX0_isSame 1 = .ok (.iload_n 1, 1) := by decide +kernel
theorem dX0_isSame_2 : decode cX0_isSame 2 = .ok (.invokevirtual 39, 3) := by decide +kernel
theorem dX0_isSame_5 : decode cX0_isSame 5 = .ok (.istore_n 3, 1) := by decide +kernel
theorem dX0_isSame_6 : decode cX0_isSame 6 = .ok (.iload_n 3, 1) := by decide +kernel
theorem dX0_isSame_7 : decode cX0_isSame 7 = .ok (.aload_n 0, 1) := by decide +kernel
theorem dX0_isSame_8 : decode cX0_isSame 8 = .ok (.iload_n 2, 1) := by decide +kernel
theorem dX0_isSame_9 : decode cX0_isSame 9 = .ok (.invokevirtual 39, 3) := by decide +kernel
theorem dX0_isSame_12 : decode cX0_isSame 12 = .ok (.if_icmp .ne 19, 3) := by decide +kernel
theorem dX0_isSame_15 : decode cX0_isSame 15 = .ok (.aload_n 0, 1) := by decide +kernel
theorem dX0_isSame_16 : decode cX0_isSame 16 = .ok (.iload_n 1, 1) := by decide +kernel
theorem dX0_isSame_17 : decode cX0_isSame 17 = .ok (.iconst 0, 1) := by decide +kernel
theorem dX0_isSame_18 : decode cX0_isSame 18 = .ok (.iload_n 2, 1) := by decide +kernel
theorem dX0_isSame_19 : decode cX0_isSame 19 = .ok (.iconst 0, 1) := by decide +kernel
theorem dX0_isSame_20 : decode cX0_isSame 20 = .ok (.invokevirtual 57, 3) := by decide +kernel
theorem dX0_isSame_23 : decode cX0_isSame 23 = .ok (.iload_n 3, 1) := by decide +kernel
theorem dX0_isSame_24 : decode cX0_isSame 24 = .ok (.if_icmp .ne 7, 3) := by decide +kernel
theorem dX0_isSame_27 : decode cX0_isSame 27 = .ok (.iconst 1, 1) := by decide +kernel
theorem dX0_isSame_28 : decode cX0_isSame 28 = .ok (.goto 4, 3) := by decide +kernel
theorem dX0_isSame_31 : decode cX0_isSame 31 = .ok (.iconst 0, 1) := by decide +kernel
theorem dX0_isSame_32 : decode cX0_isSame 32 = .ok (.ireturn, 1) := by decide +kernel
theorem dX0_countSameLines_0 : decode cX0_countSameLines 0 = .ok (.iconst 0, 1) := by decide +kernel
theorem dX0_countSameLines_1 : decode cX0_countSameLines 1 = .ok (.istore_n 2, 1) := by decide +kernel
theorem dX0_countSameLines_2 : decode cX0_countSameLines 2 = .ok (.iconst 0, 1) := by decide +kernel
theorem dX0_countSameLines_3 : decode cX0_countSameLines 3 = .ok (.istore_n 3, 1) := by decide +kernel
theorem dX0_countSameLines_4 : decode cX0_countSameLines 4 = .ok (.iload_n 3, 1) := by decide +kernel
theorem dX0_countSameLines_5 : decode cX0_countSameLines 5 = .ok (.aload_n 0, 1) := by decide +kernel
theorem dX0_countSameLines_6 : decode cX0_countSameLines 6 = .ok (.getfield 19, 3) := by decide +kernel
theorem dX0_countSameLines_9 : decode cX0_countSameLines 9 = .ok (.if_icmp .ge 21, 3) := by decide +kernel
theorem dX0_countSameLines_12 : decode cX0_countSameLines 12 = .ok (.aload_n 0, 1) := by decide +kernel
theorem dX0_countSameLines_13 : decode cX0_countSameLines 13 = .ok (.iload_n 1, 1) := by decide +kernel
theorem dX0_countSameLines_14 : decode cX0_countSameLines 14 = .ok (.iload_n 3, 1) := by decide +kernel
theorem dX0_countSameLines_15 : decode cX0_countSameLines 15 = .ok (.invokevirtual 61, 3) := by decide +kernel
theorem dX0_countSameLines_18 : decode cX0_countSameLines 18 = .ok (.ifCond .eq 6, 3) := by decide +kernel
theorem dX0_countSameLines_21 : decode cX0_countSameLines 21 = .ok (.iinc 2 1, 3) := by decide +kernel
theorem dX0_countSameLines_24 : decode cX0_countSameLines 24 = .ok (.iinc 3 1, 3) := by decide +kernel
theorem dX0_countSameLines_27 : decode cX0_countSameLines 27 = .ok (.goto (-23), 3) := by decide +kernel
theorem dX0_countSameLines_30 : decode cX0_countSameLines 30 = .ok (.iload_n 2, 1) := by decide +kernel
theorem dX0_countSameLines_31 : decode cX0_countSameLines 31 = .ok (.ireturn, 1) := by decide +kernel
theorem dX0_countKinds_0 : decode cX0_countKinds 0 = .ok (.iconst 0, 1) := by decide +kernel
theorem dX0_countKinds_1 : decode cX0_countKinds 1 = .ok (.istore_n 1, 1) := by decide +kernel
theorem dX0_countKinds_2 : decode cX0_countKinds 2 = .ok (.iconst 0, 1) := by decide +kernel
theorem dX0_countKinds_3 : decode cX0_countKinds 3 = .ok (.istore_n 2, 1) := by decide +kernel
theorem dX0_countKinds_4 : decode cX0_countKinds 4 = .ok (.iload_n 2, 1) := by decide +kernel
theorem dX0_countKinds_5 : decode cX0_countKinds 5 = .ok (.aload_n 0, 1) := by decide +kernel
theorem dX0_countKinds_6 : decode cX0_countKinds 6 = .ok (.getfield 19, 3) := by decide +kernel
theorem dX0_countKinds_9 : decode cX0_countKinds 9 = .ok (.if_icmp .ge 39, 3) := by decide +kernel
theorem dX0_countKinds_12 : decode cX0_countKinds 12 = .ok (.iconst 0, 1) := by decide +kernel
theorem dX0_countKinds_13 : decode cX0_countKinds 13 = .ok (.istore_n 3, 1) := by decide +kernel
theorem dX0_countKinds_14 : decode cX0_countKinds 14 = .ok (.iload_n 3, 1) := by decide +kernel
theorem dX0_countKinds_15 : decode cX0_countKinds 15 = .ok (.iload_n 2, 1) := by decide +kernel
theorem dX0_countKinds_16 : decode cX0_countKinds 16 = .ok (.if_icmp .ge 18, 3) := by decide +kernel
theorem dX0_countKinds_19 : decode cX0_countKinds 19 = .ok (.aload_n 0, 1) := by decide +kernel
theorem dX0_countKinds_20 : decode cX0_countKinds 20 = .ok (.iload_n 3, 1) := by decide +kernel
theorem dX0_countKinds_21 : decode cX0_countKinds 21 = .ok (.iload_n 2, 1) := by decide +kernel
theorem dX0_countKinds_22 : decode cX0_countKinds 22 = .ok (.invokevirtual 61, 3) := by decide +kernel
theorem dX0_countKinds_25 : decode cX0_countKinds 25 = .ok (.ifCond .ne 9, 3) := by decide +kernel
theorem dX0_countKinds_28 : decode cX0_countKinds 28 = .ok (.iinc 3 1, 3) := by decide +kernel
theorem dX0_countKinds_31 : decode cX0_countKinds 31 = .ok (.goto (-17), 3) := by decide +kernel
theorem dX0_countKinds_34 : decode cX0_countKinds 34 = .ok (.iload_n 3, 1) := by decide +kernel
theorem dX0_countKinds_35 : decode cX0_countKinds 35 = .ok (.iload_n 2, 1) := by decide +kernel
theorem dX0_countKinds_36 : decode cX0_countKinds 36 = .ok (.if_icmp .ne 6, 3) := by decide +kernel
theorem dX0_countKinds_39 : decode cX0_countKinds 39 = .ok (.iinc 1 1, 3) := by decide +kernel
theorem dX0_countKinds_42 : decode cX0_countKinds 42 = .ok (.iinc 2 1, 3) := by decide +kernel
theorem dX0_countKinds_45 : decode cX0_countKinds 45 = .ok (.goto (-41), 3) := by decide +kernel
theorem dX0_countKinds_48 : decode cX0_countKinds 48 = .ok (.iload_n 1, 1) := by decide +kernel
theorem dX0_countKinds_49 : decode cX0_countKinds 49 = .ok (.ireturn, 1) := by decide +kernel
theorem dX0_isReverse_0 : decode cX0_isReverse 0 = .ok (.aload_n 0, 1) := by decide +kernel
theorem dX0_isReverse_1 : decode cX0_isReverse 1 = .ok (.iload_n 1, 1) := by decide +kernel
theorem dX0_isReverse_2 : decode cX0_isReverse 2 = .ok (.invokevirtual 39, 3) := by decide +kernel
theorem dX0_isReverse_5 : decode cX0_isReverse 5 = .ok (.istore_n 3, 1) := by decide +kernel
theorem dX0_isReverse_6 : decode cX0_isReverse 6 = .ok (.iload_n 3, 1) := by decide +kernel
theorem dX0_isReverse_7 : decode cX0_isReverse 7 = .ok (.aload_n 0, 1) := by decide +kernel
theorem dX0_isReverse_8 : decode cX0_isReverse 8 = .ok (.iload_n 2, 1) := by decide +kernel
theorem dX0_isReverse_9 : decode cX0_isReverse 9 = .ok (.invokevirtual 39, 3) := by decide +kernel
theorem dX0_isReverse_12 : decode cX0_isReverse 12 = .ok (.if_icmp .eq 5, 3) := by decide +kernel
theorem dX0_isReverse_15 : decode cX0_isReverse 15 = .ok (.iconst 0, 1) := by decide +kernel
theorem dX0_isReverse_16 : decode cX0_isReverse 16 = .ok (.ireturn, 1) := by decide +kernel
theorem dX0_isReverse_17 : decode cX0_isReverse 17 = .ok (.iconst 0, 1) := by decide +kernel
theorem dX0_isReverse_18 : decode cX0_isReverse 18 = .ok (.istore 4, 2) := by decide +kernel
theorem dX0_isReverse_20 : decode cX0_isReverse 20 = .ok (.iload 4, 2) := by decide +kernel
theorem dX0_isReverse_22 : decode cX0_isReverse 22 = .ok (.iload_n 3, 1) := by decide +kernel
theorem dX0_isReverse_23 : decode cX0_isReverse 23 = .ok (.if_icmp .ge 32, 3) := by decide +kernel
theorem dX0_isReverse_26 : decode cX0_isReverse 26 = .ok (.aload_n 0, 1) := by decide +kernel
theorem dX0_isReverse_27 : decode cX0_isReverse 27 = .ok (.iload_n 1, 1) := by decide +kernel
theorem dX0_isReverse_28 : decode cX0_isReverse 28 = .ok (.iload 4, 2) := by decide +kernel
theorem dX0_isReverse_30 : decode cX0_isReverse 30 = .ok (.invokevirtual 43, 3) := by decide +kernel
theorem dX0_isReverse_33 : decode cX0_isReverse 33 = .ok (.aload_n 0, 1) := by decide +kernel
theorem dX0_isReverse_34 : decode cX0_isReverse 34 = .ok (.iload_n 2, 1) := by decide +kernel
theorem dX0_isReverse_35 : decode cX0_isReverse 35 = .ok (.iload_n 3, 1) := by decide +kernel
theorem dX0_isReverse_36 : decode cX0_isReverse 36 = .ok (.iconst 1, 1) := by decide +kernel
theorem dX0_isReverse_37 : decode cX0_isReverse 37 = .ok (.isub, 1) := by decide +kernel
theorem dX0_isReverse_38 : decode cX0_isReverse 38 = .ok (.iload 4, 2) := by decide +kernel
theorem dX0_isReverse_40 : decode cX0_isReverse 40 = .ok (.isub, 1) := by decide +kernel
theorem dX0_isReverse_41 : decode cX0_isReverse 41 = .ok (.invokevirtual 43, 3) := by decide +kernel
theorem dX0_isReverse_44 : decode cX0_isReverse 44 = .ok (.if_icmp .eq 5, 3) := by decide +kernel
theorem dX0_isReverse_47 : decode cX0_isReverse 47 = .ok (.iconst 0, 1) := by decide +kernel
theorem dX0_isReverse_48 : decode cX0_isReverse 48 = .ok (.ireturn, 1) := by decide +kernel
theorem dX0_isReverse_49 : decode cX0_isReverse 49 = .ok (.iinc 4 1, 3) := by decide +kernel
theorem dX0_isReverse_52 : decode cX0_isReverse 52 = .ok (.goto (-32), 3) := by decide +kernel
theorem dX0_isReverse_55 : decode cX0_isReverse 55 = .ok (.iconst 1, 1) := by decide +kernel
theorem dX0_isReverse_56 : decode cX0_isReverse 56 = .ok (.ireturn, 1) := by decide +kernel
theorem dX0_countReversible_0 : decode cX0_countReversible 0 = .ok (.iconst 0, 1) := by decide +kernel
theorem dX0_countReversible_1 : decode cX0_countReversible 1 = .ok (.istore_n 1, 1) := by decide +kernel
theorem dX0_countReversible_2 : decode cX0_countReversible 2 = .ok (.iconst 0, 1) := by decide +kernel
theorem dX0_countReversible_3 : decode cX0_countReversible 3 = .ok (.istore_n 2, 1) := by decide +kernel
theorem dX0_countReversible_4 : decode cX0_countReversible 4 = .ok (.iload_n 2, 1) := by decide +kernel
theorem dX0_countReversible_5 : decode cX0_countReversible 5 = .ok (.aload_n 0, 1) := by decide +kernel
theorem dX0_countReversible_6 : decode cX0_countReversible 6 = .ok (.getfield 19, 3) := by decide +kernel
theorem dX0_countReversible_9 : decode cX0_countReversible 9 = .ok (.if_icmp .ge 21, 3) := by decide +kernel
theorem dX0_countReversible_12 : decode cX0_countReversible 12 = .ok (.aload_n 0, 1) := by decide +kernel
theorem dX0_countReversible_13 : decode cX0_countReversible 13 = .ok (.iload_n 2, 1) := by decide +kernel
theorem dX0_countReversible_14 : decode cX0_countReversible 14 = .ok (.iload_n 2, 1) := by decide +kernel
theorem dX0_countReversible_15 : decode cX0_countReversible 15 = .ok (.invokevirtual 64, 3) := by decide +kernel
theorem dX0_countReversible_18 : decode cX0_countReversible 18 = .ok (.ifCond .eq 6, 3) := by decide +kernel
theorem dX0_countReversible_21 : decode cX0_countReversible 21 = .ok (.iinc 1 1, 3) := by decide +kernel
theorem dX0_countReversible_24 : decode cX0_countReversible 24 = .ok (.iinc 2 1, 3) := by decide +kernel
theorem dX0_countReversible_27 : decode cX0_countReversible 27 = .ok (.goto (-23), 3) := by decide +kernel
theorem dX0_countReversible_30 : decode cX0_countReversible 30 = .ok (.iload_n 1, 1) := by decide +kernel
theorem dX0_countReversible_31 : decode cX0_countReversible 31 = .ok (.ireturn, 1) := by decide +kernel
theorem dX0_period_0 : decode cX0_period 0 = .ok (.aload_n 0, 1) := by decide +kernel
theorem dX0_period_1 : decode cX0_period 1 = .ok (.iload_n 1, 1) := by decide +kernel
theorem dX0_period_2 : decode cX0_period 2 = .ok (.invokevirtual 39, 3) := by decide +kernel
theorem dX0_period_5 : decode cX0_period 5 = .ok (.istore_n 2, 1) := by decide +kernel
theorem dX0_period_6 : decode cX0_period 6 = .ok (.iconst 1, 1) := by decide +kernel
theorem dX0_period_7 : decode cX0_period 7 = .ok (.istore_n 3, 1) := by decide +kernel
theorem dX0_period_8 : decode cX0_period 8 = .ok (.iload_n 3, 1) := by decide +kernel
theorem dX0_period_9 : decode cX0_period 9 = .ok (.iload_n 2, 1) := by decide +kernel
theorem dX0_period_10 : decode cX0_period 10 = .ok (.if_icmp .ge 23, 3) := by decide +kernel
theorem dX0_period_13 : decode cX0_period 13 = .ok (.aload_n 0, 1) := by decide +kernel
theorem dX0_period_14 : decode cX0_period 14 = .ok (.iload_n 1, 1) := by decide +kernel
theorem dX0_period_15 : decode cX0_period 15 = .ok (.iload_n 3, 1) := by decide +kernel
theorem dX0_period_16 : decode cX0_period 16 = .ok (.iload_n 1, 1) := by decide +kernel
theorem dX0_period_17 : decode cX0_period 17 = .ok (.iconst 0, 1) := by decide +kernel
theorem dX0_period_18 : decode cX0_period 18 = .ok (.invokevirtual 57, 3) := by decide +kernel
theorem dX0_period_21 : decode cX0_period 21 = .ok (.iload_n 2, 1) := by decide +kernel
theorem dX0_period_22 : decode cX0_period 22 = .ok (.iload_n 3, 1) := by decide +kernel
theorem dX0_period_23 : decode cX0_period 23 = .ok (.isub, 1) := by decide +kernel
theorem dX0_period_24 : decode cX0_period 24 = .ok (.if_icmp .ge 9, 3) := by decide +kernel
theorem dX0_period_27 : decode cX0_period 27 = .ok (.iinc 3 1, 3) := by decide +kernel
theorem dX0_period_30 : decode cX0_period 30 = .ok (.goto (-22), 3) := by decide +kernel
theorem dX0_period_33 : decode cX0_period 33 = .ok (.iload_n 3, 1) := by decide +kernel
theorem dX0_period_34 : decode cX0_period 34 = .ok (.ireturn, 1) := by decide +kernel
theorem dX0_letterSet_0 : decode cX0_letterSet 0 = .ok (.iconst 0, 1) := by decide +kernel
theorem dX0_letterSet_1 : decode cX0_letterSet 1 = .ok (.istore_n 2, 1) := by decide +kernel
theorem dX0_letterSet_2 : decode cX0_letterSet 2 = .ok (.iconst 0, 1) := by decide +kernel
theorem dX0_letterSet_3 : decode cX0_letterSet 3 = .ok (.istore_n 3, 1) := by decide +kernel
theorem dX0_letterSet_4 : decode cX0_letterSet 4 = .ok (.iload_n 3, 1) := by decide +kernel
theorem dX0_letterSet_5 : decode cX0_letterSet 5 = .ok (.aload_n 0, 1) := by decide +kernel
theorem dX0_letterSet_6 : decode cX0_letterSet 6 = .ok (.iload_n 1, 1) := by decide +kernel
theorem dX0_letterSet_7 : decode cX0_letterSet 7 = .ok (.invokevirtual 39, 3) := by decide +kernel
theorem dX0_letterSet_10 : decode cX0_letterSet 10 = .ok (.if_icmp .ge 23, 3) := by decide +kernel
theorem dX0_letterSet_13 : decode cX0_letterSet 13 = .ok (.iload_n 2, 1) := by decide +kernel
theorem dX0_letterSet_14 : decode cX0_letterSet 14 = .ok (.iconst 1, 1) := by decide +kernel
theorem dX0_letterSet_15 : decode cX0_letterSet 15 = .ok (.aload_n 0, 1) := by decide +kernel
theorem dX0_letterSet_16 : decode cX0_letterSet 16 = .ok (.iload_n 1, 1) := by decide +kernel
theorem dX0_letterSet_17 : decode cX0_letterSet 17 = .ok (.iload_n 3, 1) := by decide +kernel
theorem dX0_letterSet_18 : decode cX0_letterSet 18 = .ok (.invokevirtual 43, 3) := by decide +kernel
theorem dX0_letterSet_21 : decode cX0_letterSet 21 = .ok (.bipush 97, 2) := by decide +kernel
theorem dX0_letterSet_23 : decode cX0_letterSet 23 = .ok (.isub, 1) := by decide +kernel
theorem dX0_letterSet_24 : decode cX0_letterSet 24 = .ok (.ishl, 1) := by decide +kernel
theorem dX0_letterSet_25 : decode cX0_letterSet 25 = .ok (.ior, 1) := by decide +kernel
theorem dX0_letterSet_26 : decode cX0_letterSet 26 = .ok (.istore_n 2, 1) := by decide +kernel
theorem dX0_letterSet_27 : decode cX0_letterSet 27 = .ok (.iinc 3 1, 3) := by decide +kernel
theorem dX0_letterSet_30 : decode cX0_letterSet 30 = .ok (.goto (-26), 3) := by decide +kernel
theorem dX0_letterSet_33 : decode cX0_letterSet 33 = .ok (.iload_n 2, 1) := by decide +kernel
theorem dX0_letterSet_34 : decode cX0_letterSet 34 = .ok (.ireturn, 1) := by decide +kernel
theorem dX0_letterSet__0 : decode cX0_letterSet_ 0 = .ok (.iconst 0, 1) := by decide +kernel
theorem dX0_letterSet__1 : decode cX0_letterSet_ 1 = .ok (.istore_n 1, 1) := by decide +kernel
theorem dX0_letterSet__2 : decode cX0_letterSet_ 2 = .ok (.iconst 0, 1) := by decide +kernel
theorem dX0_letterSet__3 : decode cX0_letterSet_ 3 = .ok (.istore_n 2, 1) := by decide +kernel
theorem dX0_letterSet__4 : decode cX0_letterSet_ 4 = .ok (.iload_n 2, 1) := by decide +kernel
theorem dX0_letterSet__5 : decode cX0_letterSet_ 5 = .ok (.aload_n 0, 1) := by decide +kernel
theorem dX0_letterSet__6 : decode cX0_letterSet_ 6 = .ok (.getfield 19, 3) := by decide +kernel
theorem dX0_letterSet__9 : decode cX0_letterSet_ 9 = .ok (.if_icmp .ge 17, 3) := by decide +kernel
theorem dX0_letterSet__12 : decode cX0_letterSet_ 12 = .ok (.iload_n 1, 1) := by decide +kernel
theorem dX0_letterSet__13 : decode cX0_letterSet_ 13 = .ok (.aload_n 0, 1) := by decide +kernel
theorem dX0_letterSet__14 : decode cX0_letterSet_ 14 = .ok (.iload_n 2, 1) := by decide +kernel
theorem dX0_letterSet__15 : decode cX0_letterSet_ 15 = .ok (.invokevirtual 67, 3) := by decide +kernel
theorem dX0_letterSet__18 : decode cX0_letterSet_ 18 = .ok (.ior, 1) := by decide +kernel
theorem dX0_letterSet__19 : decode cX0_letterSet_ 19 = .ok (.istore_n 1, 1) := by decide +kernel
theorem dX0_letterSet__20 : decode cX0_letterSet_ 20 = .ok (.iinc 2 1, 3) := by decide +kernel
theorem dX0_letterSet__23 : decode cX0_letterSet_ 23 = .ok (.goto (-19), 3) := by decide +kernel
theorem dX0_letterSet__26 : decode cX0_letterSet_ 26 = .ok (.iload_n 1, 1) := by decide +kernel
theorem dX0_letterSet__27 : decode cX0_letterSet_ 27 = .ok (.ireturn, 1) := by decide +kernel
theorem dX1_addText_0 : decode cX1_addText 0 = .ok (.aload_n 2, 1) := by decide +kernel
theorem dX1_addText_1 : decode cX1_addText 1 = .ok (.invokevirtual 9, 3) := by decide +kernel
theorem dX1_addText_4 : decode cX1_addText 4 = .ok (.ifCond .ne 15, 3) := by decide +kernel
theorem dX1_addText_7 : decode cX1_addText 7 = .ok (.aload_n 1, 1) := by decide +kernel
theorem dX1_addText_8 : decode cX1_addText 8 = .ok (.bipush 9, 2) := by decide +kernel
theorem dX1_addText_10 : decode cX1_addText 10 = .ok (.aload_n 2, 1) := by decide +kernel
theorem dX1_addText_11 : decode cX1_addText 11 = .ok (.invokevirtual 15, 3) := by decide +kernel
theorem dX1_addText_14 : decode cX1_addText 14 = .ok (.invokevirtual 19, 3) := by decide +kernel
theorem dX1_addText_17 : decode cX1_addText 17 = .ok (.iconst 0, 1) := by decide +kernel
theorem dX1_addText_18 : decode cX1_addText 18 = .ok (.ireturn, 1) := by decide +kernel
theorem dX1_addText_19 : decode cX1_addText 19 = .ok (.aload_n 0, 1) := by decide +kernel
theorem dX1_addText_20 : decode cX1_addText 20 = .ok (.aload_n 1, 1) := by decide +kernel
theorem dX1_addText_21 : decode cX1_addText 21 = .ok (.aload_n 2, 1) := by decide +kernel
theorem dX1_addText_22 : decode cX1_addText 22 = .ok (.iconst 0, 1) := by decide +kernel
theorem dX1_addText_23 : decode cX1_addText 23 = .ok (.aload_n 2, 1) := by decide +kernel
theorem dX1_addText_24 : decode cX1_addText 24 = .ok (.invokevirtual 15, 3) := by decide +kernel
theorem dX1_addText_27 : decode cX1_addText 27 = .ok (.invokestatic 25, 3) := by decide +kernel
theorem dX1_addText_30 : decode cX1_addText 30 = .ok (.ireturn, 1) := by decide +kernel
theorem dX1_addWord_0 : decode cX1_addWord 0 = .ok (.aload_n 0, 1) := by decide +kernel
theorem dX1_addWord_1 : decode cX1_addWord 1 = .ok (.invokevirtual 31, 3) := by decide +kernel
theorem dX1_addWord_4 : decode cX1_addWord 4 = .ok (.istore 5, 2) := by decide +kernel
theorem dX1_addWord_6 : decode cX1_addWord 6 = .ok (.iload 5, 2) := by decide +kernel
theorem dX1_addWord_8 : decode cX1_addWord 8 = .ok (.bipush 8, 2) := by decide +kernel
theorem dX1_addWord_10 : decode cX1_addWord 10 = .ok (.if_icmp .lt 12, 3) := by decide +kernel
theorem dX1_addWord_13 : decode cX1_addWord 13 = .ok (.aload_n 1, 1) := by decide +kernel
theorem dX1_addWord_14 : decode cX1_addWord 14 = .ok (.iconst 1, 1) := by decide +kernel
theorem dX1_addWord_15 : decode cX1_addWord 15 = .ok (.iload 5, 2) := by decide +kernel
theorem dX1_addWord_17 : decode cX1_addWord 17 = .ok (.invokevirtual 19, 3) := by decide +kernel
theorem dX1_addWord_20 : decode cX1_addWord 20 = .ok (.iconst 0, 1) := by decide +kernel
theorem dX1_addWord_21 : decode cX1_addWord 21 = .ok (.ireturn, 1) := by decide +kernel
theorem dX1_addWord_22 : decode cX1_addWord 22 = .ok (.aload_n 0, 1) := by decide +kernel
theorem dX1_addWord_23 : decode cX1_addWord 23 = .ok (.invokevirtual 36, 3) := by decide +kernel
theorem dX1_addWord_26 : decode cX1_addWord 26 = .ok (.iload_n 3, 1) := by decide +kernel
theorem dX1_addWord_27 : decode cX1_addWord 27 = .ok (.istore 6, 2) := by decide +kernel
theorem dX1_addWord_29 : decode cX1_addWord 29 = .ok (.iload 6, 2) := by decide +kernel
theorem dX1_addWord_31 : decode cX1_addWord 31 = .ok (.iload 4, 2) := by decide +kernel
theorem dX1_addWord_33 : decode cX1_addWord 33 = .ok (.if_icmp .ge 21, 3) := by decide +kernel
theorem dX1_addWord_36 : decode cX1_addWord 36 = .ok (.aload_n 0, 1) := by decide +kernel
theorem dX1_addWord_37 : decode cX1_addWord 37 = .ok (.iload 5, 2) := by decide +kernel
theorem dX1_addWord_39 : decode cX1_addWord 39 = .ok (.aload_n 2, 1) := by decide +kernel
theorem dX1_addWord_40 : decode cX1_addWord 40 = .ok (.iload 6, 2) := by decide +kernel
theorem dX1_addWord_42 : decode cX1_addWord 42 = .ok (.invokevirtual 39, 3) := by decide +kernel
theorem dX1_addWord_45 : decode cX1_addWord 45 = .ok (.invokevirtual 43, 3) := by decide +kernel
theorem dX1_addWord_48 : decode cX1_addWord 48 = .ok (.iinc 6 1, 3) := by decide +kernel
theorem dX1_addWord_51 : decode cX1_addWord 51 = .ok (.goto (-22), 3) := by decide +kernel
theorem dX1_addWord_54 : decode cX1_addWord 54 = .ok (.iconst 1, 1) := by decide +kernel
theorem dX1_addWord_55 : decode cX1_addWord 55 = .ok (.ireturn, 1) := by decide +kernel
theorem dX1_cutLine_0 : decode cX1_cutLine 0 = .ok (.aload_n 0, 1) := by decide +kernel
theorem dX1_cutLine_1 : decode cX1_cutLine 1 = .ok (.aload_n 1, 1) := by decide +kernel
theorem dX1_cutLine_2 : decode cX1_cutLine 2 = .ok (.iload_n 2, 1) := by decide +kernel
theorem dX1_cutLine_3 : decode cX1_cutLine 3 = .ok (.invokestatic 47, 3) := by decide +kernel
theorem dX1_cutLine_6 : decode cX1_cutLine 6 = .ok (.ifCond .eq 5, 3) := by decide +kernel
theorem dX1_cutLine_9 : decode cX1_cutLine 9 = .ok (.iconst 0, 1) := by decide +kernel
theorem dX1_cutLine_10 : decode cX1_cutLine 10 = .ok (.ireturn, 1) := by decide +kernel
theorem dX1_cutLine_11 : decode cX1_cutLine 11 = .ok (.aload_n 0, 1) := by decide +kernel
theorem dX1_cutLine_12 : decode cX1_cutLine 12 = .ok (.iload_n 2, 1) := by decide +kernel
theorem dX1_cutLine_13 : decode cX1_cutLine 13 = .ok (.invokevirtual 51, 3) := by decide +kernel
theorem dX1_cutLine_16 : decode cX1_cutLine 16 = .ok (.iconst 1, 1) := by decide +kernel
theorem dX1_cutLine_17 : decode cX1_cutLine 17 = .ok (.ireturn, 1) := by decide +kernel
theorem dX1_changeLetter_0 : decode cX1_changeLetter 0 = .ok (.aload_n 0, 1) := by decide +kernel
theorem dX1_changeLetter_1 : decode cX1_changeLetter 1 = .ok (.aload_n 1, 1) := by decide +kernel
theorem dX1_changeLetter_2 : decode cX1_changeLetter 2 = .ok (.iload_n 2, 1) := by decide +kernel
theorem dX1_changeLetter_3 : decode cX1_changeLetter 3 = .ok (.invokestatic 47, 3) := by decide +kernel
theorem dX1_changeLetter_6 : decode cX1_changeLetter 6 = .ok (.ifCond .eq 5, 3) := by decide +kernel
theorem dX1_changeLetter_9 : decode cX1_changeLetter 9 = .ok (.iconst 0, 1) := by decide +kernel
theorem dX1_changeLetter_10 : decode cX1_changeLetter 10 = .ok (.ireturn, 1) := by decide +kernel
theorem dX1_changeLetter_11 : decode cX1_changeLetter 11 = .ok (.aload_n 0, 1) := by decide +kernel
theorem dX1_changeLetter_12 : decode cX1_changeLetter 12 = .ok (.iload_n 2, 1) := by decide +kernel
theorem dX1_changeLetter_13 : decode cX1_changeLetter 13 = .ok (.iload_n 3, 1) := by decide +kernel
theorem dX1_changeLetter_14 : decode cX1_changeLetter 14 = .ok (.invokevirtual 55, 3) := by decide +kernel
theorem dX1_changeLetter_17 : decode cX1_changeLetter 17 = .ok (.ifCond .ne 11, 3) := by decide +kernel
theorem dX1_changeLetter_20 : decode cX1_changeLetter 20 = .ok (.aload_n 1, 1) := by decide +kernel
theorem dX1_changeLetter_21 : decode cX1_changeLetter 21 = .ok (.iconst 3, 1) := by decide +kernel
theorem dX1_changeLetter_22 : decode cX1_changeLetter 22 = .ok (.iload_n 3, 1) := by decide +kernel
theorem dX1_changeLetter_23 : decode cX1_changeLetter 23 = .ok (.invokevirtual 19, 3) := by decide +kernel
theorem dX1_changeLetter_26 : decode cX1_changeLetter 26 = .ok (.iconst 0, 1) := by decide +kernel
theorem dX1_changeLetter_27 : decode cX1_changeLetter 27 = .ok (.ireturn, 1) := by decide +kernel
theorem dX1_changeLetter_28 : decode cX1_changeLetter 28 = .ok (.iload 4, 2) := by decide +kernel
theorem dX1_changeLetter_30 : decode cX1_changeLetter 30 = .ok (.invokestatic 59, 3) := by decide +kernel
theorem dX1_changeLetter_33 : decode cX1_changeLetter 33 = .ok (.ifCond .ne 12, 3) := by decide +kernel
theorem dX1_changeLetter_36 : decode cX1_changeLetter 36 = .ok (.aload_n 1, 1) := by decide +kernel
theorem dX1_changeLetter_37 : decode cX1_changeLetter 37 = .ok (.iconst 4, 1) := by decide +kernel
theorem dX1_changeLetter_38 : decode cX1_changeLetter 38 = .ok (.iload 4, 2) := by decide +kernel
theorem dX1_changeLetter_40 : decode cX1_changeLetter 40 = .ok (.invokevirtual 19, 3) := by decide +kernel
theorem dX1_changeLetter_43 : decode cX1_changeLetter 43 = .ok (.iconst 0, 1) := by decide +kernel
theorem dX1_changeLetter_44 : decode cX1_changeLetter 44 = .ok (.ireturn, 1) := by decide +kernel
theorem dX1_changeLetter_45 : decode cX1_changeLetter 45 = .ok (.aload_n 0, 1) := by decide +kernel
theorem dX1_changeLetter_46 : decode cX1_changeLetter 46 = .ok (.iload_n 2, 1) := by decide +kernel
theorem dX1_changeLetter_47 : decode cX1_changeLetter 47 = .ok (.iload_n 3, 1) := by decide +kernel
theorem dX1_changeLetter_48 : decode cX1_changeLetter 48 = .ok (.invokevirtual 63, 3) := by decide +kernel
theorem dX1_changeLetter_51 : decode cX1_changeLetter 51 = .ok (.iload 4, 2) := by decide +kernel
theorem dX1_changeLetter_53 : decode cX1_changeLetter 53 = .ok (.if_icmp .ne 11, 3) := by decide +kernel
theorem dX1_changeLetter_56 : decode cX1_changeLetter 56 = .ok (.aload_n 1, 1) := by decide +kernel
theorem dX1_changeLetter_57 : decode cX1_changeLetter 57 = .ok (.iconst 5, 1) := by decide +kernel
theorem dX1_changeLetter_58 : decode cX1_changeLetter 58 = .ok (.iload_n 3, 1) := by decide +kernel
theorem dX1_changeLetter_59 : decode cX1_changeLetter 59 = .ok (.invokevirtual 19, 3) := by decide +kernel
theorem dX1_changeLetter_62 : decode cX1_changeLetter 62 = .ok (.iconst 0, 1) := by decide +kernel
theorem dX1_changeLetter_63 : decode cX1_changeLetter 63 = .ok (.ireturn, 1) := by decide +kernel
theorem dX1_changeLetter_64 : decode cX1_changeLetter 64 = .ok (.aload_n 0, 1) := by decide +kernel
theorem dX1_changeLetter_65 : decode cX1_changeLetter 65 = .ok (.iload_n 2, 1) := by decide +kernel
theorem dX1_changeLetter_66 : decode cX1_changeLetter 66 = .ok (.iload_n 3, 1) := by decide +kernel
theorem dX1_changeLetter_67 : decode cX1_changeLetter 67 = .ok (.iload 4, 2) := by decide +kernel
theorem dX1_changeLetter_69 : decode cX1_changeLetter 69 = .ok (.invokevirtual 67, 3) := by decide +kernel
theorem dX1_changeLetter_72 : decode cX1_changeLetter 72 = .ok (.iconst 1, 1) := by decide +kernel
theorem dX1_changeLetter_73 : decode cX1_changeLetter 73 = .ok (.ireturn, 1) := by decide +kernel
theorem dX1_swapLines_0 : decode cX1_swapLines 0 = .ok (.aload_n 0, 1) := by decide +kernel
theorem dX1_swapLines_1 : decode cX1_swapLines 1 = .ok (.aload_n 1, 1) := by decide +kernel
theorem dX1_swapLines_2 : decode cX1_swapLines 2 = .ok (.iload_n 2, 1) := by decide +kernel
theorem dX1_swapLines_3 : decode cX1_swapLines 3 = .ok (.iload_n 3, 1) := by decide +kernel
theorem dX1_swapLines_4 : decode cX1_swapLines 4 = .ok (.invokestatic 71, 3) := by decide +kernel
theorem dX1_swapLines_7 : decode cX1_swapLines 7 = .ok (.ifCond .eq 5, 3) := by decide +kernel
theorem dX1_swapLines_10 : decode cX1_swapLines 10 = .ok (.iconst 0, 1) := by decide +kernel
theorem dX1_swapLines_11 : decode cX1_swapLines 11 = .ok (.ireturn, 1) := by decide +kernel
theorem dX1_swapLines_12 : decode cX1_swapLines 12 = .ok (.aload_n 0, 1) := by decide +kernel
theorem dX1_swapLines_13 : decode cX1_swapLines 13 = .ok (.iload_n 2, 1) := by decide +kernel
theorem dX1_swapLines_14 : decode cX1_swapLines 14 = .ok (.iload_n 3, 1) := by decide +kernel
theorem dX1_swapLines_15 : decode cX1_swapLines 15 = .ok (.invokevirtual 75, 3) := by decide +kernel
theorem dX1_swapLines_18 : decode cX1_swapLines 18 = .ok (.iconst 1, 1) := by decide +kernel
theorem dX1_swapLines_19 : decode cX1_swapLines 19 = .ok (.ireturn, 1) := by decide +kernel
theorem dX1_joinLines_0 : decode cX1_joinLines 0 = .ok (.aload_n 0, 1) := by decide +kernel
theorem dX1_joinLines_1 : decode cX1_joinLines 1 = .ok (.aload_n 1, 1) := by decide +kernel
theorem dX1_joinLines_2 : decode cX1_joinLines 2 = .ok (.iload_n 2, 1) := by decide +kernel
theorem dX1_joinLines_3 : decode cX1_joinLines 3 = .ok (.iload_n 3, 1) := by decide +kernel
theorem dX1_joinLines_4 : decode cX1_joinLines 4 = .ok (.invokestatic 71, 3) := by decide +kernel
theorem dX1_joinLines_7 : decode cX1_joinLines 7 = .ok (.ifCond .eq 5, 3) := by decide +kernel
theorem dX1_joinLines_10 : decode cX1_joinLines 10 = .ok (.iconst 0, 1) := by decide +kernel
theorem dX1_joinLines_11 : decode cX1_joinLines 11 = .ok (.ireturn, 1) := by decide +kernel
theorem dX1_joinLines_12 : decode cX1_joinLines 12 = .ok (.aload_n 0, 1) := by decide +kernel
theorem dX1_joinLines_13 : decode cX1_joinLines 13 = .ok (.iload_n 2, 1) := by decide +kernel
theorem dX1_joinLines_14 : decode cX1_joinLines 14 = .ok (.invokevirtual 78, 3) := by decide +kernel
theorem dX1_joinLines_17 : decode cX1_joinLines 17 = .ok (.aload_n 0, 1) := by decide +kernel
theorem dX1_joinLines_18 : decode cX1_joinLines 18 = .ok (.iload_n 3, 1) := by decide +kernel
theorem dX1_joinLines_19 : decode cX1_joinLines 19 = .ok (.invokevirtual 78, 3) := by decide +kernel
theorem dX1_joinLines_22 : decode cX1_joinLines 22 = .ok (.iadd, 1) := by decide +kernel
theorem dX1_joinLines_23 : decode cX1_joinLines 23 = .ok (.istore 4, 2) := by decide +kernel
theorem dX1_joinLines_25 : decode cX1_joinLines 25 = .ok (.iload 4, 2) := by decide +kernel
theorem dX1_joinLines_27 : decode cX1_joinLines 27 = .ok (.bipush 10, 2) := by decide +kernel
theorem dX1_joinLines_29 : decode cX1_joinLines 29 = .ok (.if_icmp .le 24, 3) := by decide +kernel
theorem dX1_joinLines_32 : decode cX1_joinLines 32 = .ok (.aload_n 1, 1) := by decide +kernel
theorem dX1_joinLines_33 : decode cX1_joinLines 33 = .ok (.bipush 7, 2) := by decide +kernel
theorem dX1_joinLines_35 : decode cX1_joinLines 35 = .ok (.iload 4, 2) := by decide +kernel
theorem dX1_joinLines_37 : decode cX1_joinLines 37 = .ok (.invokevirtual 19, 3) := by decide +kernel
theorem dX1_joinLines_40 : decode cX1_joinLines 40 = .ok (.aload_n 1, 1) := by decide +kernel
theorem dX1_joinLines_41 : decode cX1_joinLines 41 = .ok (.bipush 11, 2) := by decide +kernel
theorem dX1_joinLines_43 : decode cX1_joinLines 43 = .ok (.aload_n 0, 1) := by decide +kernel
theorem dX1_joinLines_44 : decode cX1_joinLines 44 = .ok (.iload_n 3, 1) := by decide +kernel
theorem dX1_joinLines_45 : decode cX1_joinLines 45 = .ok (.invokevirtual 78, 3) := by decide +kernel
theorem dX1_joinLines_48 : decode cX1_joinLines 48 = .ok (.invokevirtual 82, 3) := by decide +kernel
theorem dX1_joinLines_51 : decode cX1_joinLines 51 = .ok (.iconst 0, 1) := by decide +kernel
theorem dX1_joinLines_52 : decode cX1_joinLines 52 = .ok (.ireturn, 1) := by decide +kernel
theorem dX1_joinLines_53 : decode cX1_joinLines 53 = .ok (.iconst 0, 1) := by decide +kernel
theorem dX1_joinLines_54 : decode cX1_joinLines 54 = .ok (.istore 5, 2) := by decide +kernel
theorem dX1_joinLines_56 : decode cX1_joinLines 56 = .ok (.iload 5, 2) := by decide +kernel
theorem dX1_joinLines_58 : decode cX1_joinLines 58 = .ok (.aload_n 0, 1) := by decide +kernel
theorem dX1_joinLines_59 : decode cX1_joinLines 59 = .ok (.iload_n 3, 1) := by decide +kernel
theorem dX1_joinLines_60 : decode cX1_joinLines 60 = .ok (.invokevirtual 78, 3) := by decide +kernel
theorem dX1_joinLines_63 : decode cX1_joinLines 63 = .ok (.if_icmp .ge 21, 3) := by decide +kernel
theorem dX1_joinLines_66 : decode cX1_joinLines 66 = .ok (.aload_n 0, 1) := by decide +kernel
theorem dX1_joinLines_67 : decode cX1_joinLines 67 = .ok (.iload_n 2, 1) := by decide +kernel
theorem dX1_joinLines_68 : decode cX1_joinLines 68 = .ok (.aload_n 0, 1) := by decide +kernel
theorem dX1_joinLines_69 : decode cX1_joinLines 69 = .ok (.iload_n 3, 1) := by decide +kernel
theorem dX1_joinLines_70 : decode cX1_joinLines 70 = .ok (.iload 5, 2) := by decide +kernel
theorem dX1_joinLines_72 : decode cX1_joinLines 72 = .ok (.invokevirtual 63, 3) := by decide +kernel
theorem dX1_joinLines_75 : decode cX1_joinLines 75 = .ok (.invokevirtual 43, 3) := by decide +kernel
theorem dX1_joinLines_78 : decode cX1_joinLines 78 = .ok (.iinc 5 1, 3) := by decide +kernel
theorem dX1_joinLines_81 : decode cX1_joinLines 81 = .ok (.goto (-25), 3) := by decide +kernel
theorem dX1_joinLines_84 : decode cX1_joinLines 84 = .ok (.aload_n 0, 1) := by decide +kernel
theorem dX1_joinLines_85 : decode cX1_joinLines 85 = .ok (.iload_n 3, 1) := by decide +kernel
theorem dX1_joinLines_86 : decode cX1_joinLines 86 = .ok (.invokevirtual 51, 3) := by decide +kernel
theorem dX1_joinLines_89 : decode cX1_joinLines 89 = .ok (.iconst 1, 1) := by decide +kernel
theorem dX1_joinLines_90 : decode cX1_joinLines 90 = .ok (.ireturn, 1) := by decide +kernel
theorem dX1_turnLine_0 : decode cX1_turnLine 0 = .ok (.aload_n 0, 1) := by decide +kernel
theorem dX1_turnLine_1 : decode cX1_turnLine 1 = .ok (.aload_n 1, 1) := by decide +kernel
theorem dX1_turnLine_2 : decode cX1_turnLine 2 = .ok (.iload_n 2, 1) := by decide +kernel
theorem dX1_turnLine_3 : decode cX1_turnLine 3 = .ok (.invokestatic 47, 3) := by decide +kernel
theorem dX1_turnLine_6 : decode cX1_turnLine 6 = .ok (.ifCond .eq 5, 3) := by decide +kernel
theorem dX1_turnLine_9 : decode cX1_turnLine 9 = .ok (.iconst 0, 1) := by decide +kernel
theorem dX1_turnLine_10 : decode cX1_turnLine 10 = .ok (.ireturn, 1) := by decide +kernel
theorem dX1_turnLine_11 : decode cX1_turnLine 11 = .ok (.aload_n 0, 1) := by decide +kernel
theorem dX1_turnLine_12 : decode cX1_turnLine 12 = .ok (.iload_n 2, 1) := by decide +kernel
theorem dX1_turnLine_13 : decode cX1_turnLine 13 = .ok (.iload_n 2, 1) := by decide +kernel
theorem dX1_turnLine_14 : decode cX1_turnLine 14 = .ok (.invokevirtual 85, 3) := by decide +kernel
theorem dX1_turnLine_17 : decode cX1_turnLine 17 = .ok (.ifCond .eq 12, 3) := by decide +kernel
theorem dX1_turnLine_20 : decode cX1_turnLine 20 = .ok (.aload_n 1, 1) := by decide +kernel
theorem dX1_turnLine_21 : decode cX1_turnLine 21 = .ok (.bipush 8, 2) := by decide +kernel
theorem dX1_turnLine_23 : decode cX1_turnLine 23 = .ok (.iload_n 2, 1) := by decide +kernel
theorem dX1_turnLine_24 : decode cX1_turnLine 24 = .ok (.invokevirtual 19, 3) := by decide +kernel
theorem dX1_turnLine_27 : decode cX1_turnLine 27 = .ok (.iconst 0, 1) := by decide +kernel
theorem dX1_turnLine_28 : decode cX1_turnLine 28 = .ok (.ireturn, 1) := by decide +kernel
theorem dX1_turnLine_29 : decode cX1_turnLine 29 = .ok (.aload_n 0, 1) := by decide +kernel
theorem dX1_turnLine_30 : decode cX1_turnLine 30 = .ok (.iload_n 2, 1) := by decide +kernel
theorem dX1_turnLine_31 : decode cX1_turnLine 31 = .ok (.invokevirtual 88, 3) := by decide +kernel
theorem dX1_turnLine_34 : decode cX1_turnLine 34 = .ok (.iconst 1, 1) := by decide +kernel
theorem dX1_turnLine_35 : decode cX1_turnLine 35 = .ok (.ireturn, 1) := by decide +kernel
theorem dX1_isNoPair_0 : decode cX1_isNoPair 0 = .ok (.aload_n 0, 1) := by decide +kernel
theorem dX1_isNoPair_1 : decode cX1_isNoPair 1 = .ok (.aload_n 1, 1) := by decide +kernel
theorem dX1_isNoPair_2 : decode cX1_isNoPair 2 = .ok (.iload_n 2, 1) := by decide +kernel
theorem dX1_isNoPair_3 : decode cX1_isNoPair 3 = .ok (.invokestatic 47, 3) := by decide +kernel
theorem dX1_isNoPair_6 : decode cX1_isNoPair 6 = .ok (.ifCond .ne 12, 3) := by decide +kernel
theorem dX1_isNoPair_9 : decode cX1_isNoPair 9 = .ok (.aload_n 0, 1) := by decide +kernel
theorem dX1_isNoPair_10 : decode cX1_isNoPair 10 = .ok (.aload_n 1, 1) := by decide +kernel
theorem dX1_isNoPair_11 : decode cX1_isNoPair 11 = .ok (.iload_n 3, 1) := by decide +kernel
theorem dX1_isNoPair_12 : decode cX1_isNoPair 12 = .ok (.invokestatic 47, 3) := by decide +kernel
theorem dX1_isNoPair_15 : decode cX1_isNoPair 15 = .ok (.ifCond .eq 5, 3) := by decide +kernel
theorem dX1_isNoPair_18 : decode cX1_isNoPair 18 = .ok (.iconst 1, 1) := by decide +kernel
theorem dX1_isNoPair_19 : decode cX1_isNoPair 19 = .ok (.ireturn, 1) := by decide +kernel
theorem dX1_isNoPair_20 : decode cX1_isNoPair 20 = .ok (.iload_n 2, 1) := by decide +kernel
theorem dX1_isNoPair_21 : decode cX1_isNoPair 21 = .ok (.iload_n 3, 1) := by decide +kernel
theorem dX1_isNoPair_22 : decode cX1_isNoPair 22 = .ok (.if_icmp .ne 12, 3) := by decide +kernel
theorem dX1_isNoPair_25 : decode cX1_isNoPair 25 = .ok (.aload_n 1, 1) := by decide +kernel
theorem dX1_isNoPair_26 : decode cX1_isNoPair 26 = .ok (.bipush 6, 2) := by decide +kernel
theorem dX1_isNoPair_28 : decode cX1_isNoPair 28 = .ok (.iload_n 2, 1) := by decide +kernel
theorem dX1_isNoPair_29 : decode cX1_isNoPair 29 = .ok (.invokevirtual 19, 3) := by decide +kernel
theorem dX1_isNoPair_32 : decode cX1_isNoPair 32 = .ok (.iconst 1, 1) := by decide +kernel
theorem dX1_isNoPair_33 : decode cX1_isNoPair 33 = .ok (.ireturn, 1) := by decide +kernel
theorem dX1_isNoPair_34 : decode cX1_isNoPair 34 = .ok (.iconst 0, 1) := by decide +kernel
theorem dX1_isNoPair_35 : decode cX1_isNoPair 35 = .ok (.ireturn, 1) := by decide +kernel
theorem dX1_isMissing_0 : decode cX1_isMissing 0 = .ok (.aload_n 0, 1) := by decide +kernel
theorem dX1_isMissing_1 : decode cX1_isMissing 1 = .ok (.iload_n 2, 1) := by decide +kernel
theorem dX1_isMissing_2 : decode cX1_isMissing 2 = .ok (.invokevirtual 91, 3) := by decide +kernel
theorem dX1_isMissing_5 : decode cX1_isMissing 5 = .ok (.ifCond .eq 5, 3) := by decide +kernel
theorem dX1_isMissing_8 : decode cX1_isMissing 8 = .ok (.iconst 0, 1) := by decide +kernel
theorem dX1_isMissing_9 : decode cX1_isMissing 9 = .ok (.ireturn, 1) := by decide +kernel
theorem dX1_isMissing_10 : decode cX1_isMissing 10 = .ok (.aload_n 1, 1) := by decide +kernel
theorem dX1_isMissing_11 : decode cX1_isMissing 11 = .ok (.iconst 2, 1) := by decide +kernel
theorem dX1_isMissing_12 : decode cX1_isMissing 12 = .ok (.iload_n 2, 1) := by decide +kernel
theorem dX1_isMissing_13 : decode cX1_isMissing 13 = .ok (.invokevirtual 19, 3) := by decide +kernel
theorem dX1_isMissing_16 : decode cX1_isMissing 16 = .ok (.iconst 1, 1) := by decide +kernel
theorem dX1_isMissing_17 : decode cX1_isMissing 17 = .ok (.ireturn, 1) := by decide +kernel
theorem dX2_init_0 : decode cX2_init 0 = .ok (.aload_n 0, 1) := by decide +kernel
theorem dX2_init_1 : decode cX2_init 1 = .ok (.invokespecial 3, 3) := by decide +kernel
theorem dX2_init_4 : decode cX2_init 4 = .ok (.aload_n 0, 1) := by decide +kernel
theorem dX2_init_5 : decode cX2_init 5 = .ok (.bipush 60, 2) := by decide +kernel
theorem dX2_init_7 : decode cX2_init 7 = .ok (.newarray .int, 2) := by decide +kernel
theorem dX2_init_9 : decode cX2_init 9 = .ok (.putfield 9, 3) := by decide +kernel
theorem dX2_init_12 : decode cX2_init 12 = .ok (.aload_n 0, 1) := by decide +kernel
theorem dX2_init_13 : decode cX2_init 13 = .ok (.iconst 0, 1) := by decide +kernel
theorem dX2_init_14 : decode cX2_init 14 = .ok (.putfield 15, 3) := by decide +kernel
theorem dX2_init_17 : decode cX2_init 17 = .ok (.aload_n 0, 1) := by decide +kernel
theorem dX2_init_18 : decode cX2_init 18 = .ok (.ldc 19, 2) := by decide +kernel
theorem dX2_init_20 : decode cX2_init 20 = .ok (.putfield 21, 3) := by decide +kernel
theorem dX2_init_23 : decode cX2_init 23 = .ok (.aload_n 0, 1) := by decide +kernel
theorem dX2_init_24 : decode cX2_init 24 = .ok (.iconst 0, 1) := by decide +kernel
theorem dX2_init_25 : decode cX2_init 25 = .ok (.putfield 25, 3) := by decide +kernel
theorem dX2_init_28 : decode cX2_init 28 = .ok (.return_, 1) := by decide +kernel
theorem dX3_init_0 : decode cX3_init 0 = .ok (.aload_n 0, 1) := by decide +kernel
theorem dX3_init_1 : decode cX3_init 1 = .ok (.invokespecial 3, 3) := by decide +kernel
theorem dX3_init_4 : decode cX3_init 4 = .ok (.aload_n 0, 1) := by decide +kernel
theorem dX3_init_5 : decode cX3_init 5 = .ok (.bipush 80, 2) := by decide +kernel
theorem dX3_init_7 : decode cX3_init 7 = .ok (.newarray .int, 2) := by decide +kernel
theorem dX3_init_9 : decode cX3_init 9 = .ok (.putfield 9, 3) := by decide +kernel
theorem dX3_init_12 : decode cX3_init 12 = .ok (.aload_n 0, 1) := by decide +kernel
theorem dX3_init_13 : decode cX3_init 13 = .ok (.bipush 80, 2) := by decide +kernel
theorem dX3_init_15 : decode cX3_init 15 = .ok (.newarray .int, 2) := by decide +kernel
theorem dX3_init_17 : decode cX3_init 17 = .ok (.putfield 15, 3) := by decide +kernel
theorem dX3_init_20 : decode cX3_init 20 = .ok (.aload_n 0, 1) := by decide +kernel
theorem dX3_init_21 : decode cX3_init 21 = .ok (.bipush 80, 2) := by decide +kernel
theorem dX3_init_23 : decode cX3_init 23 = .ok (.newarray .int, 2) := by decide +kernel
theorem dX3_init_25 : decode cX3_init 25 = .ok (.putfield 18, 3) := by decide +kernel
theorem dX3_init_28 : decode cX3_init 28 = .ok (.aload_n 0, 1) := by decide +kernel
theorem dX3_init_29 : decode cX3_init 29 = .ok (.iconst 0, 1) := by decide +kernel
theorem dX3_init_30 : decode cX3_init 30 = .ok (.putfield 21, 3) := by decide +kernel
theorem dX3_init_33 : decode cX3_init 33 = .ok (.return_, 1) := by decide +kernel
theorem dX3_endings_0 : decode cX3_endings 0 = .ok (.aload_n 0, 1) := by decide +kernel
theorem dX3_endings_1 : decode cX3_endings 1 = .ok (.getfield 21, 3) := by decide +kernel
theorem dX3_endings_4 : decode cX3_endings 4 = .ok (.ireturn, 1) := by decide +kernel
theorem dX3_hasRank_0 : decode cX3_hasRank 0 = .ok (.iload_n 1, 1) := by decide +kernel
theorem dX3_hasRank_1 : decode cX3_hasRank 1 = .ok (.ifCond .lt 15, 3) := by decide +kernel
theorem dX3_hasRank_4 : decode cX3_hasRank 4 = .ok (.iload_n 1, 1) := by decide +kernel
theorem dX3_hasRank_5 : decode cX3_hasRank 5 = .ok (.aload_n 0, 1) := by decide +kernel
theorem dX3_hasRank_6 : decode cX3_hasRank 6 = .ok (.getfield 21, 3) := by decide +kernel
theorem dX3_hasRank_9 : decode cX3_hasRank 9 = .ok (.if_icmp .ge 7, 3) := by decide +kernel
theorem dX3_hasRank_12 : decode cX3_hasRank 12 = .ok (.iconst 1, 1) := by decide +kernel
theorem dX3_hasRank_13 : decode cX3_hasRank 13 = .ok (.goto 4, 3) := by decide +kernel
theorem dX3_hasRank_16 : decode cX3_hasRank 16 = .ok (.iconst 0, 1) := by decide +kernel
theorem dX3_hasRank_17 : decode cX3_hasRank 17 = .ok (.ireturn, 1) := by decide +kernel
theorem dX3_lineAt_0 : decode cX3_lineAt 0 = .ok (.aload_n 0, 1) := by decide +kernel
theorem dX3_lineAt_1 : decode cX3_lineAt 1 = .ok (.iload_n 1, 1) := by decide +kernel
theorem dX3_lineAt_2 : decode cX3_lineAt 2 = .ok (.invokevirtual 25, 3) := by decide +kernel
theorem dX3_lineAt_5 : decode cX3_lineAt 5 = .ok (.ifCond .eq 12, 3) := by decide +kernel
theorem dX3_lineAt_8 : decode cX3_lineAt 8 = .ok (.aload_n 0, 1) := by decide +kernel
theorem dX3_lineAt_9 : decode cX3_lineAt 9 = .ok (.getfield 9, 3) := by decide +kernel
theorem dX3_lineAt_12 : decode cX3_lineAt 12 = .ok (.iload_n 1, 1) := by decide +kernel
theorem dX3_lineAt_13 : decode cX3_lineAt 13 = .ok (.iaload, 1) := by decide +kernel
theorem dX3_lineAt_14 : decode cX3_lineAt 14 = .ok (.goto 4, 3) := by decide +kernel
theorem dX3_lineAt_17 : decode cX3_lineAt 17 = .ok (.iconst 0, 1) := by decide +kernel
theorem dX3_lineAt_18 : decode cX3_lineAt 18 = .ok (.ireturn, 1) := by decide +kernel
theorem dX3_placeAt_0 : decode cX3_placeAt 0 = .ok (.aload_n 0, 1) := by decide +kernel
theorem dX3_placeAt_1 : decode cX3_placeAt 1 = .ok (.iload_n 1, 1) := by decide +kernel
theorem dX3_placeAt_2 : decode cX3_placeAt 2 = .ok (.invokevirtual 25, 3) := by decide +kernel
theorem dX3_placeAt_5 : decode cX3_placeAt 5 = .ok (.ifCond .eq 12, 3) := by decide +kernel
theorem dX3_placeAt_8 : decode cX3_placeAt 8 = .ok (.aload_n 0, 1) := by decide +kernel
theorem dX3_placeAt_9 : decode cX3_placeAt 9 = .ok (.getfield 15, 3) := by decide +kernel
theorem dX3_placeAt_12 : decode cX3_placeAt 12 = .ok (.iload_n 1, 1) := by decide +kernel
theorem dX3_placeAt_13 : decode cX3_placeAt 13 = .ok (.iaload, 1) := by decide +kernel
theorem dX3_placeAt_14 : decode cX3_placeAt 14 = .ok (.goto 4, 3) := by decide +kernel
theorem dX3_placeAt_17 : decode cX3_placeAt 17 = .ok (.iconst 0, 1) := by decide +kernel
theorem dX3_placeAt_18 : decode cX3_placeAt 18 = .ok (.ireturn, 1) := by decide +kernel
theorem dX3_commonAt_0 : decode cX3_commonAt 0 = .ok (.aload_n 0, 1) := by decide +kernel
theorem dX3_commonAt_1 : decode cX3_commonAt 1 = .ok (.iload_n 1, 1) := by decide +kernel
theorem dX3_commonAt_2 : decode cX3_commonAt 2 = .ok (.invokevirtual 25, 3) := by decide +kernel
theorem dX3_commonAt_5 : decode cX3_commonAt 5 = .ok (.ifCond .eq 12, 3) := by decide +kernel
theorem dX3_commonAt_8 : decode cX3_commonAt 8 = .ok (.aload_n 0, 1) := by decide +kernel
theorem dX3_commonAt_9 : decode cX3_commonAt 9 = .ok (.getfield 18, 3) := by decide +kernel
theorem dX3_commonAt_12 : decode cX3_commonAt 12 = .ok (.iload_n 1, 1) := by decide +kernel
theorem dX3_commonAt_13 : decode cX3_commonAt 13 = .ok (.iaload, 1) := by decide +kernel
theorem dX3_commonAt_14 : decode cX3_commonAt 14 = .ok (.goto 4, 3) := by decide +kernel
theorem dX3_commonAt_17 : decode cX3_commonAt 17 = .ok (.iconst 0, 1) := by decide +kernel
theorem dX3_commonAt_18 : decode cX3_commonAt 18 = .ok (.ireturn, 1) := by decide +kernel
theorem dX3_sort_0 : decode cX3_sort 0 = .ok (.aload_n 0, 1) := by decide +kernel
theorem dX3_sort_1 : decode cX3_sort 1 = .ok (.iconst 0, 1) := by decide +kernel
theorem dX3_sort_2 : decode cX3_sort 2 = .ok (.putfield 21, 3) := by decide +kernel
theorem dX3_sort_5 : decode cX3_sort 5 = .ok (.iconst 0, 1) := by decide +kernel
theorem dX3_sort_6 : decode cX3_sort 6 = .ok (.istore_n 2, 1) := by decide +kernel
theorem dX3_sort_7 : decode cX3_sort 7 = .ok (.iload_n 2, 1) := by decide +kernel
theorem dX3_sort_8 : decode cX3_sort 8 = .ok (.aload_n 1, 1) := by decide +kernel
theorem dX3_sort_9 : decode cX3_sort 9 = .ok (.invokevirtual 29, 3) := by decide +kernel
theorem dX3_sort_12 : decode cX3_sort 12 = .ok (.if_icmp .ge 39, 3) := by decide +kernel
theorem dX3_sort_15 : decode cX3_sort 15 = .ok (.iconst 0, 1) := by decide +kernel
theorem dX3_sort_16 : decode cX3_sort 16 = .ok (.istore_n 3, 1) := by decide +kernel
theorem dX3_sort_17 : decode cX3_sort 17 = .ok (.iload_n 3, 1) := by decide +kernel
theorem dX3_sort_18 : decode cX3_sort 18 = .ok (.aload_n 1, 1) := by decide +kernel
theorem dX3_sort_19 : decode cX3_sort 19 = .ok (.iload_n 2, 1) := by decide +kernel
theorem dX3_sort_20 : decode cX3_sort 20 = .ok (.invokevirtual 34, 3) := by decide +kernel
theorem dX3_sort_23 : decode cX3_sort 23 = .ok (.if_icmp .ge 22, 3) := by decide +kernel
theorem dX3_sort_26 : decode cX3_sort 26 = .ok (.aload_n 0, 1) := by decide +kernel
theorem dX3_sort_27 : decode cX3_sort 27 = .ok (.aload_n 0, 1) := by decide +kernel
theorem dX3_sort_28 : decode cX3_sort 28 = .ok (.aload_n 1, 1) := by decide +kernel
theorem dX3_sort_29 : decode cX3_sort 29 = .ok (.iload_n 2, 1) := by decide +kernel
theorem dX3_sort_30 : decode cX3_sort 30 = .ok (.iload_n 3, 1) := by decide +kernel
theorem dX3_sort_31 : decode cX3_sort 31 = .ok (.invokevirtual 38, 3) := by decide +kernel
theorem dX3_sort_34 : decode cX3_sort 34 = .ok (.iload_n 2, 1) := by decide +kernel
theorem dX3_sort_35 : decode cX3_sort 35 = .ok (.iload_n 3, 1) := by decide +kernel
theorem dX3_sort_36 : decode cX3_sort 36 = .ok (.invokevirtual 42, 3) := by decide +kernel
theorem dX3_sort_39 : decode cX3_sort 39 = .ok (.iinc 3 1, 3) := by decide +kernel
theorem dX3_sort_42 : decode cX3_sort 42 = .ok (.goto (-25), 3) := by decide +kernel
theorem dX3_sort_45 : decode cX3_sort 45 = .ok (.iinc 2 1, 3) := by decide +kernel
theorem dX3_sort_48 : decode cX3_sort 48 = .ok (.goto (-41), 3) := by decide +kernel
theorem dX3_sort_51 : decode cX3_sort 51 = .ok (.iconst 1, 1) := by decide +kernel
theorem dX3_sort_52 : decode cX3_sort 52 = .ok (.istore_n 2, 1) := by decide +kernel
theorem dX3_sort_53 : decode cX3_sort 53 = .ok (.iload_n 2, 1) := by decide +kernel
theorem dX3_sort_54 : decode cX3_sort 54 = .ok (.aload_n 0, 1) := by decide +kernel
theorem dX3_sort_55 : decode cX3_sort 55 = .ok (.getfield 21, 3) := by decide +kernel
theorem dX3_sort_58 : decode cX3_sort 58 = .ok (.if_icmp .ge 47, 3) := by decide +kernel
theorem dX3_sort_61 : decode cX3_sort 61 = .ok (.aload_n 0, 1) := by decide +kernel
theorem dX3_sort_62 : decode cX3_sort 62 = .ok (.getfield 18, 3) := by decide +kernel
theorem dX3_sort_65 : decode cX3_sort 65 = .ok (.iload_n 2, 1) := by decide +kernel
theorem dX3_sort_66 : decode cX3_sort 66 = .ok (.aload_n 1, 1) := by decide +kernel
theorem dX3_sort_67 : decode cX3_sort 67 = .ok (.aload_n 0, 1) := by decide +kernel
theorem dX3_sort_68 : decode cX3_sort 68 = .ok (.getfield 9, 3) := by decide +kernel
theorem dX3_sort_71 : decode cX3_sort 71 = .ok (.iload_n 2, 1) := by decide +kernel
theorem dX3_sort_72 : decode cX3_sort 72 = .ok (.iconst 1, 1) := by decide +kernel
theorem dX3_sort_73 : decode cX3_sort 73 = .ok (.isub, 1) := by decide +kernel
theorem dX3_sort_74 : decode cX3_sort 74 = .ok (.iaload, 1) := by decide +kernel
theorem dX3_sort_75 : decode cX3_sort 75 = .ok (.aload_n 0, 1) := by decide +kernel
theorem dX3_sort_76 : decode cX3_sort 76 = .ok (.getfield 15, 3) := by decide +kernel
theorem dX3_sort_79 : decode cX3_sort 79 = .ok (.iload_n 2, 1) := by decide +kernel
theorem dX3_sort_80 : decode cX3_sort 80 = .ok (.iconst 1, 1) := by decide +kernel
theorem dX3_sort_81 : decode cX3_sort 81 = .ok (.isub, 1) := by decide +kernel
theorem dX3_sort_82 : decode cX3_sort 82 = .ok (.iaload, 1) := by decide +kernel
theorem dX3_sort_83 : decode cX3_sort 83 = .ok (.aload_n 0, 1) := by decide +kernel
theorem dX3_sort_84 : decode cX3_sort 84 = .ok (.getfield 9, 3) := by decide +kernel
theorem dX3_sort_87 : decode cX3_sort 87 = .ok (.iload_n 2, 1) := by decide +kernel
theorem dX3_sort_88 : decode cX3_sort 88 = .ok (.iaload, 1) := by decide +kernel
theorem dX3_sort_89 : decode cX3_sort 89 = .ok (.aload_n 0, 1) := by decide +kernel
theorem dX3_sort_90 : decode cX3_sort 90 = .ok (.getfield 15, 3) := by decide +kernel
theorem dX3_sort_93 : decode cX3_sort 93 = .ok (.iload_n 2, 1) := by decide +kernel
theorem dX3_sort_94 : decode cX3_sort 94 = .ok (.iaload, 1) := by decide +kernel
theorem dX3_sort_95 : decode cX3_sort 95 = .ok (.invokevirtual 46, 3) := by decide +kernel
theorem dX3_sort_98 : decode cX3_sort 98 = .ok (.iastore, 1) := by decide +kernel
theorem dX3_sort_99 : decode cX3_sort 99 = .ok (.iinc 2 1, 3) := by decide +kernel
theorem dX3_sort_102 : decode cX3_sort 102 = .ok (.goto (-49), 3) := by decide +kernel
theorem dX3_sort_105 : decode cX3_sort 105 = .ok (.return_, 1) := by decide +kernel
theorem dX3_rankToTake_0 : decode cX3_rankToTake 0 = .ok (.iconst 0, 1) := by decide +kernel
theorem dX3_rankToTake_1 : decode cX3_rankToTake 1 = .ok (.istore 4, 2) := by decide +kernel
theorem dX3_rankToTake_3 : decode cX3_rankToTake 3 = .ok (.aload_n 0, 1) := by decide +kernel
theorem dX3_rankToTake_4 : decode cX3_rankToTake 4 = .ok (.getfield 21, 3) := by decide +kernel
theorem dX3_rankToTake_7 : decode cX3_rankToTake 7 = .ok (.istore 5, 2) := by decide +kernel
theorem dX3_rankToTake_9 : decode cX3_rankToTake 9 = .ok (.iconst 0, 1) := by decide +kernel
theorem dX3_rankToTake_10 : decode cX3_rankToTake 10 = .ok (.istore 6, 2) := by decide +kernel
theorem dX3_rankToTake_12 : decode cX3_rankToTake 12 = .ok (.iload 6, 2) := by decide +kernel
theorem dX3_rankToTake_14 : decode cX3_rankToTake 14 = .ok (.bipush 100, 2) := by decide +kernel
theorem dX3_rankToTake_16 : decode cX3_rankToTake 16 = .ok (.if_icmp .ge 59, 3) := by decide +kernel
theorem dX3_rankToTake_19 : decode cX3_rankToTake 19 = .ok (.iload 4, 2) := by decide +kernel
theorem dX3_rankToTake_21 : decode cX3_rankToTake 21 = .ok (.iload 5, 2) := by decide +kernel
theorem dX3_rankToTake_23 : decode cX3_rankToTake 23 = .ok (.if_icmp .ge 52, 3) := by decide +kernel
theorem dX3_rankToTake_26 : decode cX3_rankToTake 26 = .ok (.iload 4, 2) := by decide +kernel
theorem dX3_rankToTake_28 : decode cX3_rankToTake 28 = .ok (.iload 5, 2) := by decide +kernel
theorem dX3_rankToTake_30 : decode cX3_rankToTake 30 = .ok (.iadd, 1) := by decide +kernel
theorem dX3_rankToTake_31 : decode cX3_rankToTake 31 = .ok (.iconst 2, 1) := by decide +kernel
theorem dX3_rankToTake_32 : decode cX3_rankToTake 32 = .ok (.idiv, 1) := by decide +kernel
theorem dX3_rankToTake_33 : decode cX3_rankToTake 33 = .ok (.istore 7, 2) := by decide +kernel
theorem dX3_rankToTake_35 : decode cX3_rankToTake 35 = .ok (.aload_n 1, 1) := by decide +kernel
theorem dX3_rankToTake_36 : decode cX3_rankToTake 36 = .ok (.aload_n 0, 1) := by decide +kernel
theorem dX3_rankToTake_37 : decode cX3_rankToTake 37 = .ok (.iload 7, 2) := by decide +kernel
theorem dX3_rankToTake_39 : decode cX3_rankToTake 39 = .ok (.invokevirtual 50, 3) := by decide +kernel
theorem dX3_rankToTake_42 : decode cX3_rankToTake 42 = .ok (.aload_n 0, 1) := by decide +kernel
theorem dX3_rankToTake_43 : decode cX3_rankToTake 43 = .ok (.iload 7, 2) := by decide +kernel
theorem dX3_rankToTake_45 : decode cX3_rankToTake 45 = .ok (.invokevirtual 53, 3) := by decide +kernel
theorem dX3_rankToTake_48 : decode cX3_rankToTake 48 = .ok (.iload_n 2, 1) := by decide +kernel
theorem dX3_rankToTake_49 : decode cX3_rankToTake 49 = .ok (.iload_n 3, 1) := by decide +kernel
theorem dX3_rankToTake_50 : decode cX3_rankToTake 50 = .ok (.invokevirtual 56, 3) := by decide +kernel
theorem dX3_rankToTake_53 : decode cX3_rankToTake 53 = .ok (.ifCond .eq 12, 3) := by decide +kernel
theorem dX3_rankToTake_56 : decode cX3_rankToTake 56 = .ok (.iload 7, 2) := by decide +kernel
theorem dX3_rankToTake_58 : decode cX3_rankToTake 58 = .ok (.iconst 1, 1) := by decide +kernel
theorem dX3_rankToTake_59 : decode cX3_rankToTake 59 = .ok (.iadd, 1) := by decide +kernel
theorem dX3_rankToTake_60 : decode cX3_rankToTake 60 = .ok (.istore 4, 2) := by decide +kernel
theorem dX3_rankToTake_62 : decode cX3_rankToTake 62 = .ok (.goto 7, 3) := by decide +kernel
theorem dX3_rankToTake_65 : decode cX3_rankToTake 65 = .ok (.iload 7, 2) := by decide +kernel
theorem dX3_rankToTake_67 : decode cX3_rankToTake 67 = .ok (.istore 5, 2) := by decide +kernel
theorem dX3_rankToTake_69 : decode cX3_rankToTake 69 = .ok (.iinc 6 1, 3) := by decide +kernel
theorem dX3_rankToTake_72 : decode cX3_rankToTake 72 = .ok (.goto (-60), 3) := by decide +kernel
theorem dX3_rankToTake_75 : decode cX3_rankToTake 75 = .ok (.iload 4, 2) := by decide +kernel
theorem dX3_rankToTake_77 : decode cX3_rankToTake 77 = .ok (.ireturn, 1) := by decide +kernel
theorem dX3_insert_0 : decode cX3_insert 0 = .ok (.iload_n 1, 1) := by decide +kernel
theorem dX3_insert_1 : decode cX3_insert 1 = .ok (.ifCond .lt 94, 3) := by decide +kernel
theorem dX3_insert_4 : decode cX3_insert 4 = .ok (.iload_n 1, 1) := by decide +kernel
theorem dX3_insert_5 : decode cX3_insert 5 = .ok (.aload_n 0, 1) := by decide +kernel
theorem dX3_insert_6 : decode cX3_insert 6 = .ok (.getfield 21, 3) := by decide +kernel
theorem dX3_insert_9 : decode cX3_insert 9 = .ok (.if_icmp .gt 86, 3) := by decide +kernel
theorem dX3_insert_12 : decode cX3_insert 12 = .ok (.aload_n 0, 1) := by decide +kernel
theorem dX3_insert_13 : decode cX3_insert 13 = .ok (.getfield 21, 3) := by decide +kernel
theorem dX3_insert_16 : decode cX3_insert 16 = .ok (.bipush 80, 2) := by decide +kernel
theorem dX3_insert_18 : decode cX3_insert 18 = .ok (.if_icmp .ge 77, 3) := by decide +kernel
theorem dX3_insert_21 : decode cX3_insert 21 = .ok (.aload_n 0, 1) := by decide +kernel
theorem dX3_insert_22 : decode cX3_insert 22 = .ok (.getfield 21, 3) := by decide +kernel
theorem dX3_insert_25 : decode cX3_insert 25 = .ok (.istore 4, 2) := by decide +kernel
theorem dX3_insert_27 : decode cX3_insert 27 = .ok (.iload 4, 2) := by decide +kernel
theorem dX3_insert_29 : decode cX3_insert 29 = .ok (.iload_n 1, 1) := by decide +kernel
theorem dX3_insert_30 : decode cX3_insert 30 = .ok (.if_icmp .le 41, 3) := by decide +kernel
theorem dX3_insert_33 : decode cX3_insert 33 = .ok (.aload_n 0, 1) := by decide +kernel
theorem dX3_insert_34 : decode cX3_insert 34 = .ok (.getfield 9, 3) := by decide +kernel
theorem dX3_insert_37 : decode cX3_insert 37 = .ok (.iload 4, 2) := by decide +kernel
theorem dX3_insert_39 : decode cX3_insert 39 = .ok (.aload_n 0, 1) := by decide +kernel
theorem dX3_insert_40 : decode cX3_insert 40 = .ok (.getfield 9, 3) := by decide +kernel
theorem dX3_insert_43 : decode cX3_insert 43 = .ok (.iload 4, 2) := by decide +kernel
theorem dX3_insert_45 : decode cX3_insert 45 = .ok (.iconst 1, 1) := by decide +kernel
theorem dX3_insert_46 : decode cX3_insert 46 = .ok (.isub, 1) := by decide +kernel
theorem dX3_insert_47 : decode cX3_insert 47 = .ok (.iaload, 1) := by decide +kernel
theorem dX3_insert_48 : decode cX3_insert 48 = .ok (.iastore, 1) := by decide +kernel
theorem dX3_insert_49 : decode cX3_insert 49 = .ok (.aload_n 0, 1) := by decide +kernel
theorem dX3_insert_50 : decode cX3_insert 50 = .ok (.getfield 15, 3) := by decide +kernel
theorem dX3_insert_53 : decode cX3_insert 53 = .ok (.iload 4, 2) := by decide +kernel
theorem dX3_insert_55 : decode cX3_insert 55 = .ok (.aload_n 0, 1) := by decide +kernel
theorem dX3_insert_56 : decode cX3_insert 56 = .ok (.getfield 15, 3) := by decide +kernel
theorem dX3_insert_59 : decode cX3_insert 59 = .ok (.iload 4, 2) := by decide +kernel
theorem dX3_insert_61 : decode cX3_insert 61 = .ok (.iconst 1, 1) := by decide +kernel
theorem dX3_insert_62 : decode cX3_insert 62 = .ok (.isub, 1) := by decide +kernel
theorem dX3_insert_63 : decode cX3_insert 63 = .ok (.iaload, 1) := by decide +kernel
theorem dX3_insert_64 : decode cX3_insert 64 = .ok (.iastore, 1) := by decide +kernel
theorem dX3_insert_65 : decode cX3_insert 65 = .ok (.iinc 4 (-1), 3) := by decide +kernel
theorem dX3_insert_68 : decode cX3_insert 68 = .ok (.goto (-41), 3) := by decide +kernel
theorem dX3_insert_71 : decode cX3_insert 71 = .ok (.aload_n 0, 1) := by decide +kernel
theorem dX3_insert_72 : decode cX3_insert 72 = .ok (.getfield 9, 3) := by decide +kernel
theorem dX3_insert_75 : decode cX3_insert 75 = .ok (.iload_n 1, 1) := by decide +kernel
theorem dX3_insert_76 : decode cX3_insert 76 = .ok (.iload_n 2, 1) := by decide +kernel
theorem dX3_insert_77 : decode cX3_insert 77 = .ok (.iastore, 1) := by decide +kernel
theorem dX3_insert_78 : decode cX3_insert 78 = .ok (.aload_n 0, 1) := by decide +kernel
theorem dX3_insert_79 : decode cX3_insert 79 = .ok (.getfield 15, 3) := by decide +kernel
theorem dX3_insert_82 : decode cX3_insert 82 = .ok (.iload_n 1, 1) := by decide +kernel
theorem dX3_insert_83 : decode cX3_insert 83 = .ok (.iload_n 3, 1) := by decide +kernel
theorem dX3_insert_84 : decode cX3_insert 84 = .ok (.iastore, 1) := by decide +kernel
theorem dX3_insert_85 : decode cX3_insert 85 = .ok (.aload_n 0, 1) := by decide +kernel
theorem dX3_insert_86 : decode cX3_insert 86 = .ok (.dup, 1) := by decide +kernel
theorem dX3_insert_87 : decode cX3_insert 87 = .ok (.getfield 21, 3) := by decide +kernel
theorem dX3_insert_90 : decode cX3_insert 90 = .ok (.iconst 1, 1) := by decide +kernel
theorem dX3_insert_91 : decode cX3_insert 91 = .ok (.iadd, 1) := by decide +kernel
theorem dX3_insert_92 : decode cX3_insert 92 = .ok (.putfield 21, 3) := by decide +kernel
theorem dX3_insert_95 : decode cX3_insert 95 = .ok (.return_, 1) := by decide +kernel
theorem dX3_rankOf_0 : decode cX3_rankOf 0 = .ok (.iconst 0, 1) := by decide +kernel
theorem dX3_rankOf_1 : decode cX3_rankOf 1 = .ok (.istore_n 3, 1) := by decide +kernel
theorem dX3_rankOf_2 : decode cX3_rankOf 2 = .ok (.iload_n 3, 1) := by decide +kernel
theorem dX3_rankOf_3 : decode cX3_rankOf 3 = .ok (.aload_n 0, 1) := by decide +kernel
theorem dX3_rankOf_4 : decode cX3_rankOf 4 = .ok (.getfield 21, 3) := by decide +kernel
theorem dX3_rankOf_7 : decode cX3_rankOf 7 = .ok (.if_icmp .ge 29, 3) := by decide +kernel
theorem dX3_rankOf_10 : decode cX3_rankOf 10 = .ok (.aload_n 0, 1) := by decide +kernel
theorem dX3_rankOf_11 : decode cX3_rankOf 11 = .ok (.getfield 9, 3) := by decide +kernel
theorem dX3_rankOf_14 : decode cX3_rankOf 14 = .ok (.iload_n 3, 1) := by decide +kernel
theorem dX3_rankOf_15 : decode cX3_rankOf 15 = .ok (.iaload, 1) := by decide +kernel
theorem dX3_rankOf_16 : decode cX3_rankOf 16 = .ok (.iload_n 1, 1) := by decide +kernel
theorem dX3_rankOf_17 : decode cX3_rankOf 17 = .ok (.if_icmp .ne 13, 3) := by decide +kernel
theorem dX3_rankOf_20 : decode cX3_rankOf 20 = .ok (.aload_n 0, 1) := by decide +kernel
theorem dX3_rankOf_21 : decode cX3_rankOf 21 = .ok (.getfield 15, 3) := by decide +kernel
theorem dX3_rankOf_24 : decode cX3_rankOf 24 = .ok (.iload_n 3, 1) := by decide +kernel
theorem dX3_rankOf_25 : decode cX3_rankOf 25 = .ok (.iaload, 1) := by decide +kernel
theorem dX3_rankOf_26 : decode cX3_rankOf 26 = .ok (.iload_n 2, 1) := by decide +kernel
theorem dX3_rankOf_27 : decode cX3_rankOf 27 = .ok (.if_icmp .eq 9, 3) := by decide +kernel
theorem dX3_rankOf_30 : decode cX3_rankOf 30 = .ok (.iinc 3 1, 3) := by decide +kernel
theorem dX3_rankOf_33 : decode cX3_rankOf 33 = .ok (.goto (-31), 3) := by decide +kernel
theorem dX3_rankOf_36 : decode cX3_rankOf 36 = .ok (.iload_n 3, 1) := by decide +kernel
theorem dX3_rankOf_37 : decode cX3_rankOf 37 = .ok (.ireturn, 1) := by decide +kernel
theorem dX3_longestCommon_0 : decode cX3_longestCommon 0 = .ok (.iconst 0, 1) := by decide +kernel
theorem dX3_longestCommon_1 : decode cX3_longestCommon 1 = .ok (.istore_n 1, 1) := by decide +kernel
theorem dX3_longestCommon_2 : decode cX3_longestCommon 2 = .ok (.iconst 1, 1) := by decide +kernel
theorem dX3_longestCommon_3 : decode cX3_longestCommon 3 = .ok (.istore_n 2, 1) := by decide +kernel
theorem dX3_longestCommon_4 : decode cX3_longestCommon 4 = .ok (.iload_n 2, 1) := by decide +kernel
theorem dX3_longestCommon_5 : decode cX3_longestCommon 5 = .ok (.aload_n 0, 1) := by decide +kernel
theorem dX3_longestCommon_6 : decode cX3_longestCommon 6 = .ok (.getfield 21, 3) := by decide +kernel
theorem dX3_longestCommon_9 : decode cX3_longestCommon 9 = .ok (.if_icmp .ge 20, 3) := by decide +kernel
theorem dX3_longestCommon_12 : decode cX3_longestCommon 12 = .ok (.iload_n 1, 1) := by decide +kernel
theorem dX3_longestCommon_13 : decode cX3_longestCommon 13 = .ok (.aload_n 0, 1) := by decide +kernel
theorem dX3_longestCommon_14 : decode cX3_longestCommon 14 = .ok (.getfield 18, 3) := by decide +kernel
theorem dX3_longestCommon_17 : decode cX3_longestCommon 17 = .ok (.iload_n 2, 1) := by decide +kernel
theorem dX3_longestCommon_18 : decode cX3_longestCommon 18 = .ok (.iaload, 1) := by decide +kernel
theorem dX3_longestCommon_19 : decode cX3_longestCommon 19 = .ok (.invokestatic 60, 3) := by decide +kernel
theorem dX3_longestCommon_22 : decode cX3_longestCommon 22 = .ok (.istore_n 1, 1) := by decide +kernel
theorem dX3_longestCommon_23 : decode cX3_longestCommon 23 = .ok (.iinc 2 1, 3) := by decide +kernel
theorem dX3_longestCommon_26 : decode cX3_longestCommon 26 = .ok (.goto (-22), 3) := by decide +kernel
theorem dX3_longestCommon_29 : decode cX3_longestCommon 29 = .ok (.iload_n 1, 1) := by decide +kernel
theorem dX3_longestCommon_30 : decode cX3_longestCommon 30 = .ok (.ireturn, 1) := by decide +kernel
theorem dX3_firstLongestRank_0 : decode cX3_firstLongestRank 0 = .ok (.aload_n 0, 1) := by decide +kernel
theorem dX3_firstLongestRank_1 : decode cX3_firstLongestRank 1 = .ok (.invokevirtual 66, 3) := by decide +kernel
theorem dX3_firstLongestRank_4 : decode cX3_firstLongestRank 4 = .ok (.istore_n 1, 1) := by decide +kernel
theorem dX3_firstLongestRank_5 : decode cX3_firstLongestRank 5 = .ok (.iconst 1, 1) := by decide +kernel
theorem dX3_firstLongestRank_6 : decode cX3_firstLongestRank 6 = .ok (.istore_n 2, 1) := by decide +kernel
theorem dX3_firstLongestRank_7 : decode cX3_firstLongestRank 7 = .ok (.iload_n 2, 1) := by decide +kernel
theorem dX3_firstLongestRank_8 : decode cX3_firstLongestRank 8 = .ok (.aload_n 0, 1) := by decide +kernel
theorem dX3_firstLongestRank_9 : decode cX3_firstLongestRank 9 = .ok (.getfield 21, 3) := by decide +kernel
theorem dX3_firstLongestRank_12 : decode cX3_firstLongestRank 12 = .ok (.if_icmp .ge 19, 3) := by decide +kernel
theorem dX3_firstLongestRank_15 : decode cX3_firstLongestRank 15 = .ok (.aload_n 0, 1) := by decide +kernel
theorem dX3_firstLongestRank_16 : decode cX3_firstLongestRank 16 = .ok (.getfield 18, 3) := by decide +kernel
theorem dX3_firstLongestRank_19 : decode cX3_firstLongestRank 19 = .ok (.iload_n 2, 1) := by decide +kernel
theorem dX3_firstLongestRank_20 : decode cX3_firstLongestRank 20 = .ok (.iaload, 1) := by decide +kernel
theorem dX3_firstLongestRank_21 : decode cX3_firstLongestRank 21 = .ok (.iload_n 1, 1) := by decide +kernel
theorem dX3_firstLongestRank_22 : decode cX3_firstLongestRank 22 = .ok (.if_icmp .eq 9, 3) := by decide +kernel
theorem dX3_firstLongestRank_25 : decode cX3_firstLongestRank 25 = .ok (.iinc 2 1, 3) := by decide +kernel
theorem dX3_firstLongestRank_28 : decode cX3_firstLongestRank 28 = .ok (.goto (-21), 3) := by decide +kernel
theorem dX3_firstLongestRank_31 : decode cX3_firstLongestRank 31 = .ok (.iload_n 2, 1) := by decide +kernel
theorem dX3_firstLongestRank_32 : decode cX3_firstLongestRank 32 = .ok (.iconst 1, 1) := by decide +kernel
theorem dX3_firstLongestRank_33 : decode cX3_firstLongestRank 33 = .ok (.isub, 1) := by decide +kernel
theorem dX3_firstLongestRank_34 : decode cX3_firstLongestRank 34 = .ok (.ireturn, 1) := by decide +kernel
theorem dX3_sumOfCommons_0 : decode cX3_sumOfCommons 0 = .ok (.iconst 0, 1) := by decide +kernel
theorem dX3_sumOfCommons_1 : decode cX3_sumOfCommons 1 = .ok (.istore_n 1, 1) := by decide +kernel
theorem dX3_sumOfCommons_2 : decode cX3_sumOfCommons 2 = .ok (.iconst 1, 1) := by decide +kernel
theorem dX3_sumOfCommons_3 : decode cX3_sumOfCommons 3 = .ok (.istore_n 2, 1) := by decide +kernel
theorem dX3_sumOfCommons_4 : decode cX3_sumOfCommons 4 = .ok (.iload_n 2, 1) := by decide +kernel
theorem dX3_sumOfCommons_5 : decode cX3_sumOfCommons 5 = .ok (.aload_n 0, 1) := by decide +kernel
theorem dX3_sumOfCommons_6 : decode cX3_sumOfCommons 6 = .ok (.getfield 21, 3) := by decide +kernel
theorem dX3_sumOfCommons_9 : decode cX3_sumOfCommons 9 = .ok (.if_icmp .ge 18, 3) := by decide +kernel
theorem dX3_sumOfCommons_12 : decode cX3_sumOfCommons 12 = .ok (.iload_n 1, 1) := by decide +kernel
theorem dX3_sumOfCommons_13 : decode cX3_sumOfCommons 13 = .ok (.aload_n 0, 1) := by decide +kernel
theorem dX3_sumOfCommons_14 : decode cX3_sumOfCommons 14 = .ok (.getfield 18, 3) := by decide +kernel
theorem dX3_sumOfCommons_17 : decode cX3_sumOfCommons 17 = .ok (.iload_n 2, 1) := by decide +kernel
theorem dX3_sumOfCommons_18 : decode cX3_sumOfCommons 18 = .ok (.iaload, 1) := by decide +kernel
theorem dX3_sumOfCommons_19 : decode cX3_sumOfCommons 19 = .ok (.iadd, 1) := by decide +kernel
theorem dX3_sumOfCommons_20 : decode cX3_sumOfCommons 20 = .ok (.istore_n 1, 1) := by decide +kernel
theorem dX3_sumOfCommons_21 : decode cX3_sumOfCommons 21 = .ok (.iinc 2 1, 3) := by decide +kernel
theorem dX3_sumOfCommons_24 : decode cX3_sumOfCommons 24 = .ok (.goto (-20), 3) := by decide +kernel
theorem dX3_sumOfCommons_27 : decode cX3_sumOfCommons 27 = .ok (.iload_n 1, 1) := by decide +kernel
theorem dX3_sumOfCommons_28 : decode cX3_sumOfCommons 28 = .ok (.ireturn, 1) := by decide +kernel
theorem dX3_countRepeats_0 : decode cX3_countRepeats 0 = .ok (.iconst 0, 1) := by decide +kernel
theorem dX3_countRepeats_1 : decode cX3_countRepeats 1 = .ok (.istore_n 1, 1) := by decide +kernel
theorem dX3_countRepeats_2 : decode cX3_countRepeats 2 = .ok (.iconst 1, 1) := by decide +kernel
theorem dX3_countRepeats_3 : decode cX3_countRepeats 3 = .ok (.istore_n 2, 1) := by decide +kernel
theorem dX3_countRepeats_4 : decode cX3_countRepeats 4 = .ok (.iload_n 2, 1) := by decide +kernel
theorem dX3_countRepeats_5 : decode cX3_countRepeats 5 = .ok (.aload_n 0, 1) := by decide +kernel
theorem dX3_countRepeats_6 : decode cX3_countRepeats 6 = .ok (.getfield 21, 3) := by decide +kernel
theorem dX3_countRepeats_9 : decode cX3_countRepeats 9 = .ok (.if_icmp .ge 21, 3) := by decide +kernel
theorem dX3_countRepeats_12 : decode cX3_countRepeats 12 = .ok (.aload_n 0, 1) := by decide +kernel
theorem dX3_countRepeats_13 : decode cX3_countRepeats 13 = .ok (.getfield 18, 3) := by decide +kernel
theorem dX3_countRepeats_16 : decode cX3_countRepeats 16 = .ok (.iload_n 2, 1) := by decide +kernel
theorem dX3_countRepeats_17 : decode cX3_countRepeats 17 = .ok (.iaload, 1) := by decide +kernel
theorem dX3_countRepeats_18 : decode cX3_countRepeats 18 = .ok (.ifCond .le 6, 3) := by decide +kernel
theorem dX3_countRepeats_21 : decode cX3_countRepeats 21 = .ok (.iinc 1 1, 3) := by decide +kernel
theorem dX3_countRepeats_24 : decode cX3_countRepeats 24 = .ok (.iinc 2 1, 3) := by decide +kernel
theorem dX3_countRepeats_27 : decode cX3_countRepeats 27 = .ok (.goto (-23), 3) := by decide +kernel
theorem dX3_countRepeats_30 : decode cX3_countRepeats 30 = .ok (.iload_n 1, 1) := by decide +kernel
theorem dX3_countRepeats_31 : decode cX3_countRepeats 31 = .ok (.ireturn, 1) := by decide +kernel
theorem dX3_countPieces_0 : decode cX3_countPieces 0 = .ok (.iconst 0, 1) := by decide +kernel
theorem dX3_countPieces_1 : decode cX3_countPieces 1 = .ok (.istore_n 2, 1) := by decide +kernel
theorem dX3_countPieces_2 : decode cX3_countPieces 2 = .ok (.iconst 0, 1) := by decide +kernel
theorem dX3_countPieces_3 : decode cX3_countPieces 3 = .ok (.istore_n 3, 1) := by decide +kernel
theorem dX3_countPieces_4 : decode cX3_countPieces 4 = .ok (.iload_n 3, 1) := by decide +kernel
theorem dX3_countPieces_5 : decode cX3_countPieces 5 = .ok (.aload_n 0, 1) := by decide +kernel
theorem dX3_countPieces_6 : decode cX3_countPieces 6 = .ok (.getfield 21, 3) := by decide +kernel
theorem dX3_countPieces_9 : decode cX3_countPieces 9 = .ok (.if_icmp .ge 35, 3) := by decide +kernel
theorem dX3_countPieces_12 : decode cX3_countPieces 12 = .ok (.iload_n 2, 1) := by decide +kernel
theorem dX3_countPieces_13 : decode cX3_countPieces 13 = .ok (.aload_n 1, 1) := by decide +kernel
theorem dX3_countPieces_14 : decode cX3_countPieces 14 = .ok (.aload_n 0, 1) := by decide +kernel
theorem dX3_countPieces_15 : decode cX3_countPieces 15 = .ok (.getfield 9, 3) := by decide +kernel
theorem dX3_countPieces_18 : decode cX3_countPieces 18 = .ok (.iload_n 3, 1) := by decide +kernel
theorem dX3_countPieces_19 : decode cX3_countPieces 19 = .ok (.iaload, 1) := by decide +kernel
theorem dX3_countPieces_20 : decode cX3_countPieces 20 = .ok (.invokevirtual 34, 3) := by decide +kernel
theorem dX3_countPieces_23 : decode cX3_countPieces 23 = .ok (.aload_n 0, 1) := by decide +kernel
theorem dX3_countPieces_24 : decode cX3_countPieces 24 = .ok (.getfield 15, 3) := by decide +kernel
theorem dX3_countPieces_27 : decode cX3_countPieces 27 = .ok (.iload_n 3, 1) := by decide +kernel
theorem dX3_countPieces_28 : decode cX3_countPieces 28 = .ok (.iaload, 1) := by decide +kernel
theorem dX3_countPieces_29 : decode cX3_countPieces 29 = .ok (.isub, 1) := by decide +kernel
theorem dX3_countPieces_30 : decode cX3_countPieces 30 = .ok (.aload_n 0, 1) := by decide +kernel
theorem dX3_countPieces_31 : decode cX3_countPieces 31 = .ok (.iload_n 3, 1) := by decide +kernel
theorem dX3_countPieces_32 : decode cX3_countPieces 32 = .ok (.invokevirtual 69, 3) := by decide +kernel
theorem dX3_countPieces_35 : decode cX3_countPieces 35 = .ok (.isub, 1) := by decide +kernel
theorem dX3_countPieces_36 : decode cX3_countPieces 36 = .ok (.iadd, 1) := by decide +kernel
theorem dX3_countPieces_37 : decode cX3_countPieces 37 = .ok (.istore_n 2, 1) := by decide +kernel
theorem dX3_countPieces_38 : decode cX3_countPieces 38 = .ok (.iinc 3 1, 3) := by decide +kernel
theorem dX3_countPieces_41 : decode cX3_countPieces 41 = .ok (.goto (-37), 3) := by decide +kernel
theorem dX3_countPieces_44 : decode cX3_countPieces 44 = .ok (.iload_n 2, 1) := by decide +kernel
theorem dX3_countPieces_45 : decode cX3_countPieces 45 = .ok (.ireturn, 1) := by decide +kernel
theorem dX3_firstRankNotBefore_0 : decode cX3_firstRankNotBefore 0 = .ok (.aload_n 0, 1) := by decide +kernel
theorem dX3_firstRankNotBefore_1 : decode cX3_firstRankNotBefore 1 = .ok (.aload_n 1, 1) := by decide +kernel
theorem dX3_firstRankNotBefore_2 : decode cX3_firstRankNotBefore 2 = .ok (.aload_n 2, 1) := by decide +kernel
theorem dX3_firstRankNotBefore_3 : decode cX3_firstRankNotBefore 3 = .ok (.iconst (-1), 1) := by decide +kernel
theorem dX3_firstRankNotBefore_4 : decode cX3_firstRankNotBefore 4 = .ok (.invokevirtual 72, 3) := by decide +kernel
theorem dX3_firstRankNotBefore_7 : decode cX3_firstRankNotBefore 7 = .ok (.ireturn, 1) := by decide +kernel
theorem dX3_firstRankBehind_0 : decode cX3_firstRankBehind 0 = .ok (.aload_n 0, 1) := by decide +kernel
theorem dX3_firstRankBehind_1 : decode cX3_firstRankBehind 1 = .ok (.aload_n 1, 1) := by decide +kernel
theorem dX3_firstRankBehind_2 : decode cX3_firstRankBehind 2 = .ok (.aload_n 2, 1) := by decide +kernel
theorem dX3_firstRankBehind_3 : decode cX3_firstRankBehind 3 = .ok (.iconst 0, 1) := by decide +kernel
theorem dX3_firstRankBehind_4 : decode cX3_firstRankBehind 4 = .ok (.invokevirtual 72, 3) := by decide +kernel
theorem dX3_firstRankBehind_7 : decode cX3_firstRankBehind 7 = .ok (.ireturn, 1) := by decide +kernel
theorem dX3_firstRankAbove_0 : decode cX3_firstRankAbove 0 = .ok (.iconst 0, 1) := by decide +kernel
theorem dX3_firstRankAbove_1 : decode cX3_firstRankAbove 1 = .ok (.istore 4, 2) := by decide +kernel
theorem dX3_firstRankAbove_3 : decode cX3_firstRankAbove 3 = .ok (.aload_n 0, 1) := by decide +kernel
theorem dX3_firstRankAbove_4 : decode cX3_firstRankAbove 4 = .ok (.getfield 21, 3) := by decide +kernel
theorem dX3_firstRankAbove_7 : decode cX3_firstRankAbove 7 = .ok (.istore 5, 2) := by decide +kernel
theorem dX3_firstRankAbove_9 : decode cX3_firstRankAbove 9 = .ok (.iconst 0, 1) := by decide +kernel
theorem dX3_firstRankAbove_10 : decode cX3_firstRankAbove 10 = .ok (.istore 6, 2) := by decide +kernel
theorem dX3_firstRankAbove_12 : decode cX3_firstRankAbove 12 = .ok (.iload 6, 2) := by decide +kernel
theorem dX3_firstRankAbove_14 : decode cX3_firstRankAbove 14 = .ok (.bipush 100, 2) := by decide +kernel
theorem dX3_firstRankAbove_16 : decode cX3_firstRankAbove 16 = .ok (.if_icmp .ge 59, 3) := by decide +kernel
theorem dX3_firstRankAbove_19 : decode cX3_firstRankAbove 19 = .ok (.iload 4, 2) := by decide +kernel
theorem dX3_firstRankAbove_21 : decode cX3_firstRankAbove 21 = .ok (.iload 5, 2) := by decide +kernel
theorem dX3_firstRankAbove_23 : decode cX3_firstRankAbove 23 = .ok (.if_icmp .ge 52, 3) := by decide +kernel
theorem dX3_firstRankAbove_26 : decode cX3_firstRankAbove 26 = .ok (.iload 4, 2) := by decide +kernel
theorem dX3_firstRankAbove_28 : decode cX3_firstRankAbove 28 = .ok (.iload 5, 2) := by decide +kernel
theorem dX3_firstRankAbove_30 : decode cX3_firstRankAbove 30 = .ok (.iadd, 1) := by decide +kernel
theorem dX3_firstRankAbove_31 : decode cX3_firstRankAbove 31 = .ok (.iconst 2, 1) := by decide +kernel
theorem dX3_firstRankAbove_32 : decode cX3_firstRankAbove 32 = .ok (.idiv, 1) := by decide +kernel
theorem dX3_firstRankAbove_33 : decode cX3_firstRankAbove 33 = .ok (.istore 7, 2) := by decide +kernel
theorem dX3_firstRankAbove_35 : decode cX3_firstRankAbove 35 = .ok (.aload_n 1, 1) := by decide +kernel
theorem dX3_firstRankAbove_36 : decode cX3_firstRankAbove 36 = .ok (.aload_n 0, 1) := by decide +kernel
theorem dX3_firstRankAbove_37 : decode cX3_firstRankAbove 37 = .ok (.iload 7, 2) := by decide +kernel
theorem dX3_firstRankAbove_39 : decode cX3_firstRankAbove 39 = .ok (.invokevirtual 50, 3) := by decide +kernel
theorem dX3_firstRankAbove_42 : decode cX3_firstRankAbove 42 = .ok (.aload_n 0, 1) := by decide +kernel
theorem dX3_firstRankAbove_43 : decode cX3_firstRankAbove 43 = .ok (.iload 7, 2) := by decide +kernel
theorem dX3_firstRankAbove_45 : decode cX3_firstRankAbove 45 = .ok (.invokevirtual 53, 3) := by decide +kernel
theorem dX3_firstRankAbove_48 : decode cX3_firstRankAbove 48 = .ok (.aload_n 2, 1) := by decide +kernel
theorem dX3_firstRankAbove_49 : decode cX3_firstRankAbove 49 = .ok (.invokestatic 76, 3) := by decide +kernel
theorem dX3_firstRankAbove_52 : decode cX3_firstRankAbove 52 = .ok (.iload_n 3, 1) := by decide +kernel
theorem dX3_firstRankAbove_53 : decode cX3_firstRankAbove 53 = .ok (.if_icmp .le 10, 3) := by decide +kernel
theorem dX3_firstRankAbove_56 : decode cX3_firstRankAbove 56 = .ok (.iload 7, 2) := by decide +kernel
theorem dX3_firstRankAbove_58 : decode cX3_firstRankAbove 58 = .ok (.istore 5, 2) := by decide +kernel
theorem dX3_firstRankAbove_60 : decode cX3_firstRankAbove 60 = .ok (.goto 9, 3) := by decide +kernel
theorem dX3_firstRankAbove_63 : decode cX3_firstRankAbove 63 = .ok (.iload 7, 2) := by decide +kernel
theorem dX3_firstRankAbove_65 : decode cX3_firstRankAbove 65 = .ok (.iconst 1, 1) := by decide +kernel
theorem dX3_firstRankAbove_66 : decode cX3_firstRankAbove 66 = .ok (.iadd, 1) := by decide +kernel
theorem dX3_firstRankAbove_67 : decode cX3_firstRankAbove 67 = .ok (.istore 4, 2) := by decide +kernel
theorem dX3_firstRankAbove_69 : decode cX3_firstRankAbove 69 = .ok (.iinc 6 1, 3) := by decide +kernel
theorem dX3_firstRankAbove_72 : decode cX3_firstRankAbove 72 = .ok (.goto (-60), 3) := by decide +kernel
theorem dX3_firstRankAbove_75 : decode cX3_firstRankAbove 75 = .ok (.iload 4, 2) := by decide +kernel
theorem dX3_firstRankAbove_77 : decode cX3_firstRankAbove 77 = .ok (.ireturn, 1) := by decide +kernel
