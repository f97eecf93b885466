/-! decode rows (printed, given for pasting) -/
theorem dX9_init_0 : decode cX9_init 0 = .ok (.aload_n 0, 1) := by decide +kernel
theorem dX9_init_1 : decode cX9_init 1 = .ok (.invokespecial 1, 3) := by decide +kernel
theorem dX9_init_4 : decode cX9_init 4 = .ok (.aload_n 0, 1) := by decide +kernel
theorem dX9_init_5 : decode cX9_init 5 = .ok (.sipush 979, 3) := by decide +kernel
theorem dX9_init_8 : decode cX9_init 8 = .ok (.newarray .int, 2) := by decide +kernel
theorem dX9_init_10 : decode cX9_init 10 = .ok (.putfield 9, 3) := by decide +kernel
theorem dX9_init_13 : decode cX9_init 13 = .ok (.aload_n 0, 1) := by decide +kernel
theorem dX9_init_14 : decode cX9_init 14 = .ok (.bipush 6, 2) := by decide +kernel
theorem dX9_init_16 : decode cX9_init 16 = .ok (.newarray .int, 2) := by decide +kernel
theorem dX9_init_18 : decode cX9_init 18 = .ok (.putfield 13, 3) := by decide +kernel
theorem dX9_init_21 : decode cX9_init 21 = .ok (.aload_n 0, 1) := by decide +kernel
theorem dX9_init_22 : decode cX9_init 22 = .ok (.bipush 60, 2) := by decide +kernel
theorem dX9_init_24 : decode cX9_init 24 = .ok (.newarray .char, 2) := by decide +kernel
theorem dX9_init_26 : decode cX9_init 26 = .ok (.putfield 16, 3) := by decide +kernel
theorem dX9_init_29 : decode cX9_init 29 = .ok (.aload_n 0, 1) := by decide +kernel
theorem dX9_init_30 : decode cX9_init 30 = .ok (.bipush 10, 2) := by decide +kernel
theorem dX9_init_32 : decode cX9_init 32 = .ok (.newarray .int, 2) := by decide +kernel
theorem dX9_init_34 : decode cX9_init 34 = .ok (.putfield 20, 3) := by decide +kernel
theorem dX9_init_37 : decode cX9_init 37 = .ok (.aload_n 0, 1) := by decide +kernel
theorem dX9_init_38 : decode cX9_init 38 = .ok (.bipush 80, 2) := by decide +kernel
theorem dX9_init_40 : decode cX9_init 40 = .ok (.newarray .int, 2) := by decide +kernel
theorem dX9_init_42 : decode cX9_init 42 = .ok (.putfield 23, 3) := by decide +kernel
theorem dX9_init_45 : decode cX9_init 45 = .ok (.aload_n 0, 1) := by decide +kernel
theorem dX9_init_46 : decode cX9_init 46 = .ok (.iconst (-1), 1) := by decide +kernel
theorem dX9_init_47 : decode cX9_init 47 = .ok (.putfield 26, 3) := by decide +kernel
theorem dX9_init_50 : decode cX9_init 50 = .ok (.aload_n 0, 1) := by decide +kernel
theorem dX9_init_51 : decode cX9_init 51 = .ok (.sipush 244, 3) := by decide +kernel
theorem dX9_init_54 : decode cX9_init 54 = .ok (.newarray .int, 2) := by decide +kernel
theorem dX9_init_56 : decode cX9_init 56 = .ok (.putfield 30, 3) := by decide +kernel
theorem dX9_init_59 : decode cX9_init 59 = .ok (.aload_n 0, 1) := by decide +kernel
theorem dX9_init_60 : decode cX9_init 60 = .ok (.bipush 20, 2) := by decide +kernel
theorem dX9_init_62 : decode cX9_init 62 = .ok (.newarray .char, 2) := by decide +kernel
theorem dX9_init_64 : decode cX9_init 64 = .ok (.putfield 33, 3) := by decide +kernel
theorem dX9_init_67 : decode cX9_init 67 = .ok (.return_, 1) := by decide +kernel
theorem dX9_thrown_0 : decode cX9_thrown 0 = .ok (.aload_n 0, 1) := by decide +kernel
theorem dX9_thrown_1 : decode cX9_thrown 1 = .ok (.getfield 36, 3) := by decide +kernel
theorem dX9_thrown_4 : decode cX9_thrown 4 = .ok (.ireturn, 1) := by decide +kernel
theorem dX9_in_0 : decode cX9_in 0 = .ok (.iload_n 0, 1) := by decide +kernel
theorem dX9_in_1 : decode cX9_in 1 = .ok (.iload_n 1, 1) := by decide +kernel
theorem dX9_in_2 : decode cX9_in 2 = .ok (.if_icmp .lt 12, 3) := by decide +kernel
theorem dX9_in_5 : decode cX9_in 5 = .ok (.iload_n 0, 1) := by decide +kernel
theorem dX9_in_6 : decode cX9_in 6 = .ok (.iload_n 2, 1) := by decide +kernel
theorem dX9_in_7 : decode cX9_in 7 = .ok (.if_icmp .gt 7, 3) := by decide +kernel
theorem dX9_in_10 : decode cX9_in 10 = .ok (.iconst 1, 1) := by decide +kernel
theorem dX9_in_11 : decode cX9_in 11 = .ok (.goto 4, 3) := by decide +kernel
theorem dX9_in_14 : decode cX9_in 14 = .ok (.iconst 0, 1) := by decide +kernel
theorem dX9_in_15 : decode cX9_in 15 = .ok (.ireturn, 1) := by decide +kernel
theorem dX9_copies_0 : decode cX9_copies 0 = .ok (.iconst 0, 1) := by decide +kernel
theorem dX9_copies_1 : decode cX9_copies 1 = .ok (.istore_n 3, 1) := by decide +kernel
theorem dX9_copies_2 : decode cX9_copies 2 = .ok (.iload_n 3, 1) := by decide +kernel
theorem dX9_copies_3 : decode cX9_copies 3 = .ok (.bipush 89, 2) := by decide +kernel
theorem dX9_copies_5 : decode cX9_copies 5 = .ok (.if_icmp .ge 31, 3) := by decide +kernel
theorem dX9_copies_8 : decode cX9_copies 8 = .ok (.aload_n 0, 1) := by decide +kernel
theorem dX9_copies_9 : decode cX9_copies 9 = .ok (.getfield 9, 3) := by decide +kernel
theorem dX9_copies_12 : decode cX9_copies 12 = .ok (.bipush 89, 2) := by decide +kernel
theorem dX9_copies_14 : decode cX9_copies 14 = .ok (.iload_n 2, 1) := by decide +kernel
theorem dX9_copies_15 : decode cX9_copies 15 = .ok (.imul, 1) := by decide +kernel
theorem dX9_copies_16 : decode cX9_copies 16 = .ok (.iload_n 3, 1) := by decide +kernel
theorem dX9_copies_17 : decode cX9_copies 17 = .ok (.iadd, 1) := by decide +kernel
theorem dX9_copies_18 : decode cX9_copies 18 = .ok (.aload_n 0, 1) := by decide +kernel
theorem dX9_copies_19 : decode cX9_copies 19 = .ok (.getfield 9, 3) := by decide +kernel
theorem dX9_copies_22 : decode cX9_copies 22 = .ok (.bipush 89, 2) := by decide +kernel
theorem dX9_copies_24 : decode cX9_copies 24 = .ok (.iload_n 1, 1) := by decide +kernel
theorem dX9_copies_25 : decode cX9_copies 25 = .ok (.imul, 1) := by decide +kernel
theorem dX9_copies_26 : decode cX9_copies 26 = .ok (.iload_n 3, 1) := by decide +kernel
theorem dX9_copies_27 : decode cX9_copies 27 = .ok (.iadd, 1) := by decide +kernel
theorem dX9_copies_28 : decode cX9_copies 28 = .ok (.iaload, 1) := by decide +kernel
theorem dX9_copies_29 : decode cX9_copies 29 = .ok (.iastore, 1) := by decide +kernel
theorem dX9_copies_30 : decode cX9_copies 30 = .ok (.iinc 3 1, 3) := by decide +kernel
theorem dX9_copies_33 : decode cX9_copies 33 = .ok (.goto (-31), 3) := by decide +kernel
theorem dX9_copies_36 : decode cX9_copies 36 = .ok (.return_, 1) := by decide +kernel
theorem dX9_begins_0 : decode cX9_begins 0 = .ok (.aload_n 0, 1) := by decide +kernel
theorem dX9_begins_1 : decode cX9_begins 1 = .ok (.iconst 0, 1) := by decide +kernel
theorem dX9_begins_2 : decode cX9_begins 2 = .ok (.bipush 10, 2) := by decide +kernel
theorem dX9_begins_4 : decode cX9_begins 4 = .ok (.invokevirtual 39, 3) := by decide +kernel
theorem dX9_begins_7 : decode cX9_begins 7 = .ok (.return_, 1) := by decide +kernel
theorem dX9_ends_0 : decode cX9_ends 0 = .ok (.aload_n 0, 1) := by decide +kernel
theorem dX9_ends_1 : decode cX9_ends 1 = .ok (.iload_n 1, 1) := by decide +kernel
theorem dX9_ends_2 : decode cX9_ends 2 = .ok (.ifCond .eq 7, 3) := by decide +kernel
theorem dX9_ends_5 : decode cX9_ends 5 = .ok (.iconst 0, 1) := by decide +kernel
theorem dX9_ends_6 : decode cX9_ends 6 = .ok (.goto 4, 3) := by decide +kernel
theorem dX9_ends_9 : decode cX9_ends 9 = .ok (.iload_n 2, 1) := by decide +kernel
theorem dX9_ends_10 : decode cX9_ends 10 = .ok (.putfield 36, 3) := by decide +kernel
theorem dX9_ends_13 : decode cX9_ends 13 = .ok (.iload_n 1, 1) := by decide +kernel
theorem dX9_ends_14 : decode cX9_ends 14 = .ok (.ifCond .ne 12, 3) := by decide +kernel
theorem dX9_ends_17 : decode cX9_ends 17 = .ok (.aload_n 0, 1) := by decide +kernel
theorem dX9_ends_18 : decode cX9_ends 18 = .ok (.bipush 10, 2) := by decide +kernel
theorem dX9_ends_20 : decode cX9_ends 20 = .ok (.iconst 0, 1) := by decide +kernel
theorem dX9_ends_21 : decode cX9_ends 21 = .ok (.invokevirtual 39, 3) := by decide +kernel
theorem dX9_ends_24 : decode cX9_ends 24 = .ok (.iconst 0, 1) := by decide +kernel
theorem dX9_ends_25 : decode cX9_ends 25 = .ok (.ireturn, 1) := by decide +kernel
theorem dX9_ends_26 : decode cX9_ends 26 = .ok (.aload_n 0, 1) := by decide +kernel
theorem dX9_ends_27 : decode cX9_ends 27 = .ok (.getfield 43, 3) := by decide +kernel
theorem dX9_ends_30 : decode cX9_ends 30 = .ok (.bipush 8, 2) := by decide +kernel
theorem dX9_ends_32 : decode cX9_ends 32 = .ok (.if_icmp .ne 35, 3) := by decide +kernel
theorem dX9_ends_35 : decode cX9_ends 35 = .ok (.iconst 1, 1) := by decide +kernel
theorem dX9_ends_36 : decode cX9_ends 36 = .ok (.istore_n 3, 1) := by decide +kernel
theorem dX9_ends_37 : decode cX9_ends 37 = .ok (.iload_n 3, 1) := by decide +kernel
theorem dX9_ends_38 : decode cX9_ends 38 = .ok (.bipush 8, 2) := by decide +kernel
theorem dX9_ends_40 : decode cX9_ends 40 = .ok (.if_icmp .ge 17, 3) := by decide +kernel
theorem dX9_ends_43 : decode cX9_ends 43 = .ok (.aload_n 0, 1) := by decide +kernel
theorem dX9_ends_44 : decode cX9_ends 44 = .ok (.iload_n 3, 1) := by decide +kernel
theorem dX9_ends_45 : decode cX9_ends 45 = .ok (.iconst 1, 1) := by decide +kernel
theorem dX9_ends_46 : decode cX9_ends 46 = .ok (.iadd, 1) := by decide +kernel
theorem dX9_ends_47 : decode cX9_ends 47 = .ok (.iload_n 3, 1) := by decide +kernel
theorem dX9_ends_48 : decode cX9_ends 48 = .ok (.invokevirtual 39, 3) := by decide +kernel
theorem dX9_ends_51 : decode cX9_ends 51 = .ok (.iinc 3 1, 3) := by decide +kernel
theorem dX9_ends_54 : decode cX9_ends 54 = .ok (.goto (-17), 3) := by decide +kernel
theorem dX9_ends_57 : decode cX9_ends 57 = .ok (.aload_n 0, 1) := by decide +kernel
theorem dX9_ends_58 : decode cX9_ends 58 = .ok (.dup, 1) := by decide +kernel
theorem dX9_ends_59 : decode cX9_ends 59 = .ok (.getfield 43, 3) := by decide +kernel
theorem dX9_ends_62 : decode cX9_ends 62 = .ok (.iconst 1, 1) := by decide +kernel
theorem dX9_ends_63 : decode cX9_ends 63 = .ok (.isub, 1) := by decide +kernel
theorem dX9_ends_64 : decode cX9_ends 64 = .ok (.putfield 43, 3) := by decide +kernel
theorem dX9_ends_67 : decode cX9_ends 67 = .ok (.aload_n 0, 1) := by decide +kernel
theorem dX9_ends_68 : decode cX9_ends 68 = .ok (.dup, 1) := by decide +kernel
theorem dX9_ends_69 : decode cX9_ends 69 = .ok (.getfield 43, 3) := by decide +kernel
theorem dX9_ends_72 : decode cX9_ends 72 = .ok (.iconst 1, 1) := by decide +kernel
theorem dX9_ends_73 : decode cX9_ends 73 = .ok (.iadd, 1) := by decide +kernel
theorem dX9_ends_74 : decode cX9_ends 74 = .ok (.putfield 43, 3) := by decide +kernel
theorem dX9_ends_77 : decode cX9_ends 77 = .ok (.aload_n 0, 1) := by decide +kernel
theorem dX9_ends_78 : decode cX9_ends 78 = .ok (.bipush 10, 2) := by decide +kernel
theorem dX9_ends_80 : decode cX9_ends 80 = .ok (.aload_n 0, 1) := by decide +kernel
theorem dX9_ends_81 : decode cX9_ends 81 = .ok (.getfield 43, 3) := by decide +kernel
theorem dX9_ends_84 : decode cX9_ends 84 = .ok (.invokevirtual 39, 3) := by decide +kernel
theorem dX9_ends_87 : decode cX9_ends 87 = .ok (.aload_n 0, 1) := by decide +kernel
theorem dX9_ends_88 : decode cX9_ends 88 = .ok (.getfield 46, 3) := by decide +kernel
theorem dX9_ends_91 : decode cX9_ends 91 = .ok (.ireturn, 1) := by decide +kernel
theorem dX9_refuses_0 : decode cX9_refuses 0 = .ok (.iload_n 1, 1) := by decide +kernel
theorem dX9_refuses_1 : decode cX9_refuses 1 = .ok (.ifCond .eq 31, 3) := by decide +kernel
theorem dX9_refuses_4 : decode cX9_refuses 4 = .ok (.aload_n 0, 1) := by decide +kernel
theorem dX9_refuses_5 : decode cX9_refuses 5 = .ok (.getfield 13, 3) := by decide +kernel
theorem dX9_refuses_8 : decode cX9_refuses 8 = .ok (.iconst 0, 1) := by decide +kernel
theorem dX9_refuses_9 : decode cX9_refuses 9 = .ok (.iload_n 2, 1) := by decide +kernel
theorem dX9_refuses_10 : decode cX9_refuses 10 = .ok (.iastore, 1) := by decide +kernel
theorem dX9_refuses_11 : decode cX9_refuses 11 = .ok (.aload_n 0, 1) := by decide +kernel
theorem dX9_refuses_12 : decode cX9_refuses 12 = .ok (.getfield 13, 3) := by decide +kernel
theorem dX9_refuses_15 : decode cX9_refuses 15 = .ok (.iconst 1, 1) := by decide +kernel
theorem dX9_refuses_16 : decode cX9_refuses 16 = .ok (.iload_n 3, 1) := by decide +kernel
theorem dX9_refuses_17 : decode cX9_refuses 17 = .ok (.iastore, 1) := by decide +kernel
theorem dX9_refuses_18 : decode cX9_refuses 18 = .ok (.aload_n 0, 1) := by decide +kernel
theorem dX9_refuses_19 : decode cX9_refuses 19 = .ok (.getfield 13, 3) := by decide +kernel
theorem dX9_refuses_22 : decode cX9_refuses 22 = .ok (.iconst 2, 1) := by decide +kernel
theorem dX9_refuses_23 : decode cX9_refuses 23 = .ok (.iconst 0, 1) := by decide +kernel
theorem dX9_refuses_24 : decode cX9_refuses 24 = .ok (.iastore, 1) := by decide +kernel
theorem dX9_refuses_25 : decode cX9_refuses 25 = .ok (.aload_n 0, 1) := by decide +kernel
theorem dX9_refuses_26 : decode cX9_refuses 26 = .ok (.getfield 13, 3) := by decide +kernel
theorem dX9_refuses_29 : decode cX9_refuses 29 = .ok (.iconst 4, 1) := by decide +kernel
theorem dX9_refuses_30 : decode cX9_refuses 30 = .ok (.iconst 0, 1) := by decide +kernel
theorem dX9_refuses_31 : decode cX9_refuses 31 = .ok (.iastore, 1) := by decide +kernel
theorem dX9_refuses_32 : decode cX9_refuses 32 = .ok (.iload_n 1, 1) := by decide +kernel
theorem dX9_refuses_33 : decode cX9_refuses 33 = .ok (.ireturn, 1) := by decide +kernel
theorem dX9_reason_0 : decode cX9_reason 0 = .ok (.aload_n 0, 1) := by decide +kernel
theorem dX9_reason_1 : decode cX9_reason 1 = .ok (.iload_n 1, 1) := by decide +kernel
theorem dX9_reason_2 : decode cX9_reason 2 = .ok (.iconst 0, 1) := by decide +kernel
theorem dX9_reason_3 : decode cX9_reason 3 = .ok (.iconst 2, 1) := by decide +kernel
theorem dX9_reason_4 : decode cX9_reason 4 = .ok (.invokestatic 49, 3) := by decide +kernel
theorem dX9_reason_7 : decode cX9_reason 7 = .ok (.ifCond .ne 7, 3) := by decide +kernel
theorem dX9_reason_10 : decode cX9_reason 10 = .ok (.iconst 1, 1) := by decide +kernel
theorem dX9_reason_11 : decode cX9_reason 11 = .ok (.goto 19, 3) := by decide +kernel
theorem dX9_reason_14 : decode cX9_reason 14 = .ok (.aload_n 0, 1) := by decide +kernel
theorem dX9_reason_15 : decode cX9_reason 15 = .ok (.getfield 13, 3) := by decide +kernel
theorem dX9_reason_18 : decode cX9_reason 18 = .ok (.iconst 2, 1) := by decide +kernel
theorem dX9_reason_19 : decode cX9_reason 19 = .ok (.iload_n 1, 1) := by decide +kernel
theorem dX9_reason_20 : decode cX9_reason 20 = .ok (.imul, 1) := by decide +kernel
theorem dX9_reason_21 : decode cX9_reason 21 = .ok (.iaload, 1) := by decide +kernel
theorem dX9_reason_22 : decode cX9_reason 22 = .ok (.ifCond .ne 7, 3) := by decide +kernel
theorem dX9_reason_25 : decode cX9_reason 25 = .ok (.iconst 2, 1) := by decide +kernel
theorem dX9_reason_26 : decode cX9_reason 26 = .ok (.goto 4, 3) := by decide +kernel
theorem dX9_reason_29 : decode cX9_reason 29 = .ok (.iconst 0, 1) := by decide +kernel
theorem dX9_reason_30 : decode cX9_reason 30 = .ok (.putfield 36, 3) := by decide +kernel
theorem dX9_reason_33 : decode cX9_reason 33 = .ok (.aload_n 0, 1) := by decide +kernel
theorem dX9_reason_34 : decode cX9_reason 34 = .ok (.getfield 36, 3) := by decide +kernel
theorem dX9_reason_37 : decode cX9_reason 37 = .ok (.ifCond .ne 24, 3) := by decide +kernel
theorem dX9_reason_40 : decode cX9_reason 40 = .ok (.aload_n 0, 1) := by decide +kernel
theorem dX9_reason_41 : decode cX9_reason 41 = .ok (.getfield 13, 3) := by decide +kernel
theorem dX9_reason_44 : decode cX9_reason 44 = .ok (.iconst 2, 1) := by decide +kernel
theorem dX9_reason_45 : decode cX9_reason 45 = .ok (.iload_n 1, 1) := by decide +kernel
theorem dX9_reason_46 : decode cX9_reason 46 = .ok (.imul, 1) := by decide +kernel
theorem dX9_reason_47 : decode cX9_reason 47 = .ok (.iload_n 2, 1) := by decide +kernel
theorem dX9_reason_48 : decode cX9_reason 48 = .ok (.ifCond .eq 7, 3) := by decide +kernel
theorem dX9_reason_51 : decode cX9_reason 51 = .ok (.iconst 1, 1) := by decide +kernel
theorem dX9_reason_52 : decode cX9_reason 52 = .ok (.goto 4, 3) := by decide +kernel
theorem dX9_reason_55 : decode cX9_reason 55 = .ok (.iconst 0, 1) := by decide +kernel
theorem dX9_reason_56 : decode cX9_reason 56 = .ok (.iadd, 1) := by decide +kernel
theorem dX9_reason_57 : decode cX9_reason 57 = .ok (.iaload, 1) := by decide +kernel
theorem dX9_reason_58 : decode cX9_reason 58 = .ok (.goto 4, 3) := by decide +kernel
theorem dX9_reason_61 : decode cX9_reason 61 = .ok (.iconst 0, 1) := by decide +kernel
theorem dX9_reason_62 : decode cX9_reason 62 = .ok (.ireturn, 1) := by decide +kernel
theorem dX9_many_0 : decode cX9_many 0 = .ok (.aload_n 0, 1) := by decide +kernel
theorem dX9_many_1 : decode cX9_many 1 = .ok (.getfield 9, 3) := by decide +kernel
theorem dX9_many_4 : decode cX9_many 4 = .ok (.iconst 0, 1) := by decide +kernel
theorem dX9_many_5 : decode cX9_many 5 = .ok (.iaload, 1) := by decide +kernel
theorem dX9_many_6 : decode cX9_many 6 = .ok (.ireturn, 1) := by decide +kernel
theorem dX9_size_0 : decode cX9_size 0 = .ok (.aload_n 0, 1) := by decide +kernel
theorem dX9_size_1 : decode cX9_size 1 = .ok (.getfield 9, 3) := by decide +kernel
theorem dX9_size_4 : decode cX9_size 4 = .ok (.iconst 1, 1) := by decide +kernel
theorem dX9_size_5 : decode cX9_size 5 = .ok (.bipush 11, 2) := by decide +kernel
theorem dX9_size_7 : decode cX9_size 7 = .ok (.iload_n 1, 1) := by decide +kernel
theorem dX9_size_8 : decode cX9_size 8 = .ok (.imul, 1) := by decide +kernel
theorem dX9_size_9 : decode cX9_size 9 = .ok (.iadd, 1) := by decide +kernel
theorem dX9_size_10 : decode cX9_size 10 = .ok (.bipush 10, 2) := by decide +kernel
theorem dX9_size_12 : decode cX9_size 12 = .ok (.iadd, 1) := by decide +kernel
theorem dX9_size_13 : decode cX9_size 13 = .ok (.iaload, 1) := by decide +kernel
theorem dX9_size_14 : decode cX9_size 14 = .ok (.ireturn, 1) := by decide +kernel
theorem dX9_at_0 : decode cX9_at 0 = .ok (.aload_n 0, 1) := by decide +kernel
theorem dX9_at_1 : decode cX9_at 1 = .ok (.getfield 9, 3) := by decide +kernel
theorem dX9_at_4 : decode cX9_at 4 = .ok (.iconst 1, 1) := by decide +kernel
theorem dX9_at_5 : decode cX9_at 5 = .ok (.bipush 11, 2) := by decide +kernel
theorem dX9_at_7 : decode cX9_at 7 = .ok (.iload_n 1, 1) := by decide +kernel
theorem dX9_at_8 : decode cX9_at 8 = .ok (.imul, 1) := by decide +kernel
theorem dX9_at_9 : decode cX9_at 9 = .ok (.iadd, 1) := by decide +kernel
theorem dX9_at_10 : decode cX9_at 10 = .ok (.iload_n 2, 1) := by decide +kernel
theorem dX9_at_11 : decode cX9_at 11 = .ok (.iadd, 1) := by decide +kernel
theorem dX9_at_12 : decode cX9_at 12 = .ok (.iaload, 1) := by decide +kernel
theorem dX9_at_13 : decode cX9_at 13 = .ok (.ireturn, 1) := by decide +kernel
theorem dX9_set_0 : decode cX9_set 0 = .ok (.aload_n 0, 1) := by decide +kernel
theorem dX9_set_1 : decode cX9_set 1 = .ok (.getfield 9, 3) := by decide +kernel
theorem dX9_set_4 : decode cX9_set 4 = .ok (.iconst 1, 1) := by decide +kernel
theorem dX9_set_5 : decode cX9_set 5 = .ok (.bipush 11, 2) := by decide +kernel
theorem dX9_set_7 : decode cX9_set 7 = .ok (.iload_n 1, 1) := by decide +kernel
theorem dX9_set_8 : decode cX9_set 8 = .ok (.imul, 1) := by decide +kernel
theorem dX9_set_9 : decode cX9_set 9 = .ok (.iadd, 1) := by decide +kernel
theorem dX9_set_10 : decode cX9_set 10 = .ok (.iload_n 2, 1) := by decide +kernel
theorem dX9_set_11 : decode cX9_set 11 = .ok (.iadd, 1) := by decide +kernel
theorem dX9_set_12 : decode cX9_set 12 = .ok (.iload_n 3, 1) := by decide +kernel
theorem dX9_set_13 : decode cX9_set 13 = .ok (.iastore, 1) := by decide +kernel
theorem dX9_set_14 : decode cX9_set 14 = .ok (.return_, 1) := by decide +kernel
theorem dX9_isLineNumber_0 : decode cX9_isLineNumber 0 = .ok (.iload_n 1, 1) := by decide +kernel
theorem dX9_isLineNumber_1 : decode cX9_isLineNumber 1 = .ok (.iconst 0, 1) := by decide +kernel
theorem dX9_isLineNumber_2 : decode cX9_isLineNumber 2 = .ok (.aload_n 0, 1) := by decide +kernel
theorem dX9_isLineNumber_3 : decode cX9_isLineNumber 3 = .ok (.invokevirtual 53, 3) := by decide +kernel
theorem dX9_isLineNumber_6 : decode cX9_isLineNumber 6 = .ok (.iconst 1, 1) := by decide +kernel
theorem dX9_isLineNumber_7 : decode cX9_isLineNumber 7 = .ok (.isub, 1) := by decide +kernel
theorem dX9_isLineNumber_8 : decode cX9_isLineNumber 8 = .ok (.invokestatic 49, 3) := by decide +kernel
theorem dX9_isLineNumber_11 : decode cX9_isLineNumber 11 = .ok (.ireturn, 1) := by decide +kernel
theorem dX9_isPlace_0 : decode cX9_isPlace 0 = .ok (.aload_n 0, 1) := by decide +kernel
theorem dX9_isPlace_1 : decode cX9_isPlace 1 = .ok (.iload_n 1, 1) := by decide +kernel
theorem dX9_isPlace_2 : decode cX9_isPlace 2 = .ok (.invokevirtual 57, 3) := by decide +kernel
theorem dX9_isPlace_5 : decode cX9_isPlace 5 = .ok (.ifCond .eq 22, 3) := by decide +kernel
theorem dX9_isPlace_8 : decode cX9_isPlace 8 = .ok (.iload_n 2, 1) := by decide +kernel
theorem dX9_isPlace_9 : decode cX9_isPlace 9 = .ok (.iconst 0, 1) := by decide +kernel
theorem dX9_isPlace_10 : decode cX9_isPlace 10 = .ok (.aload_n 0, 1) := by decide +kernel
theorem dX9_isPlace_11 : decode cX9_isPlace 11 = .ok (.iload_n 1, 1) := by decide +kernel
theorem dX9_isPlace_12 : decode cX9_isPlace 12 = .ok (.invokevirtual 61, 3) := by decide +kernel
theorem dX9_isPlace_15 : decode cX9_isPlace 15 = .ok (.iconst 1, 1) := by decide +kernel
theorem dX9_isPlace_16 : decode cX9_isPlace 16 = .ok (.isub, 1) := by decide +kernel
theorem dX9_isPlace_17 : decode cX9_isPlace 17 = .ok (.invokestatic 49, 3) := by decide +kernel
theorem dX9_isPlace_20 : decode cX9_isPlace 20 = .ok (.ifCond .eq 7, 3) := by decide +kernel
theorem dX9_isPlace_23 : decode cX9_isPlace 23 = .ok (.iconst 1, 1) := by decide +kernel
theorem dX9_isPlace_24 : decode cX9_isPlace 24 = .ok (.goto 4, 3) := by decide +kernel
theorem dX9_isPlace_27 : decode cX9_isPlace 27 = .ok (.iconst 0, 1) := by decide +kernel
theorem dX9_isPlace_28 : decode cX9_isPlace 28 = .ok (.ireturn, 1) := by decide +kernel
theorem dX9_isNoLine_0 : decode cX9_isNoLine 0 = .ok (.aload_n 0, 1) := by decide +kernel
theorem dX9_isNoLine_1 : decode cX9_isNoLine 1 = .ok (.aload_n 0, 1) := by decide +kernel
theorem dX9_isNoLine_2 : decode cX9_isNoLine 2 = .ok (.iload_n 1, 1) := by decide +kernel
theorem dX9_isNoLine_3 : decode cX9_isNoLine 3 = .ok (.invokevirtual 57, 3) := by decide +kernel
theorem dX9_isNoLine_6 : decode cX9_isNoLine 6 = .ok (.ifCond .ne 7, 3) := by decide +kernel
theorem dX9_isNoLine_9 : decode cX9_isNoLine 9 = .ok (.iconst 1, 1) := by decide +kernel
theorem dX9_isNoLine_10 : decode cX9_isNoLine 10 = .ok (.goto 4, 3) := by decide +kernel
theorem dX9_isNoLine_13 : decode cX9_isNoLine 13 = .ok (.iconst 0, 1) := by decide +kernel
theorem dX9_isNoLine_14 : decode cX9_isNoLine 14 = .ok (.iconst 2, 1) := by decide +kernel
theorem dX9_isNoLine_15 : decode cX9_isNoLine 15 = .ok (.iload_n 1, 1) := by decide +kernel
theorem dX9_isNoLine_16 : decode cX9_isNoLine 16 = .ok (.invokevirtual 65, 3) := by decide +kernel
theorem dX9_isNoLine_19 : decode cX9_isNoLine 19 = .ok (.ireturn, 1) := by decide +kernel
theorem dX9_append_0 : decode cX9_append 0 = .ok (.aload_n 0, 1) := by decide +kernel
theorem dX9_append_1 : decode cX9_append 1 = .ok (.aload_n 0, 1) := by decide +kernel
theorem dX9_append_2 : decode cX9_append 2 = .ok (.getfield 69, 3) := by decide +kernel
theorem dX9_append_5 : decode cX9_append 5 = .ok (.bipush 60, 2) := by decide +kernel
theorem dX9_append_7 : decode cX9_append 7 = .ok (.if_icmp .ne 7, 3) := by decide +kernel
theorem dX9_append_10 : decode cX9_append 10 = .ok (.iconst 1, 1) := by decide +kernel
theorem dX9_append_11 : decode cX9_append 11 = .ok (.goto 4, 3) := by decide +kernel
theorem dX9_append_14 : decode cX9_append 14 = .ok (.iconst 0, 1) := by decide +kernel
theorem dX9_append_15 : decode cX9_append 15 = .ok (.putfield 36, 3) := by decide +kernel
theorem dX9_append_18 : decode cX9_append 18 = .ok (.aload_n 0, 1) := by decide +kernel
theorem dX9_append_19 : decode cX9_append 19 = .ok (.getfield 36, 3) := by decide +kernel
theorem dX9_append_22 : decode cX9_append 22 = .ok (.ifCond .eq 5, 3) := by decide +kernel
theorem dX9_append_25 : decode cX9_append 25 = .ok (.iconst 0, 1) := by decide +kernel
theorem dX9_append_26 : decode cX9_append 26 = .ok (.ireturn, 1) := by decide +kernel
theorem dX9_append_27 : decode cX9_append 27 = .ok (.aload_n 0, 1) := by decide +kernel
theorem dX9_append_28 : decode cX9_append 28 = .ok (.getfield 16, 3) := by decide +kernel
theorem dX9_append_31 : decode cX9_append 31 = .ok (.aload_n 0, 1) := by decide +kernel
theorem dX9_append_32 : decode cX9_append 32 = .ok (.getfield 69, 3) := by decide +kernel
theorem dX9_append_35 : decode cX9_append 35 = .ok (.iload_n 1, 1) := by decide +kernel
theorem dX9_append_36 : decode cX9_append 36 = .ok (.castore, 1) := by decide +kernel
theorem dX9_append_37 : decode cX9_append 37 = .ok (.aload_n 0, 1) := by decide +kernel
theorem dX9_append_38 : decode cX9_append 38 = .ok (.dup, 1) := by decide +kernel
theorem dX9_append_39 : decode cX9_append 39 = .ok (.getfield 69, 3) := by decide +kernel
theorem dX9_append_42 : decode cX9_append 42 = .ok (.iconst 1, 1) := by decide +kernel
theorem dX9_append_43 : decode cX9_append 43 = .ok (.iadd, 1) := by decide +kernel
theorem dX9_append_44 : decode cX9_append 44 = .ok (.putfield 69, 3) := by decide +kernel
theorem dX9_append_47 : decode cX9_append 47 = .ok (.aload_n 0, 1) := by decide +kernel
theorem dX9_append_48 : decode cX9_append 48 = .ok (.getfield 69, 3) := by decide +kernel
theorem dX9_append_51 : decode cX9_append 51 = .ok (.ireturn, 1) := by decide +kernel
theorem dX9_holdsWord_0 : decode cX9_holdsWord 0 = .ok (.aload_n 0, 1) := by decide +kernel
theorem dX9_holdsWord_1 : decode cX9_holdsWord 1 = .ok (.iconst 0, 1) := by decide +kernel
theorem dX9_holdsWord_2 : decode cX9_holdsWord 2 = .ok (.putfield 72, 3) := by decide +kernel
theorem dX9_holdsWord_5 : decode cX9_holdsWord 5 = .ok (.aload_n 0, 1) := by decide +kernel
theorem dX9_holdsWord_6 : decode cX9_holdsWord 6 = .ok (.getfield 69, 3) := by decide +kernel
theorem dX9_holdsWord_9 : decode cX9_holdsWord 9 = .ok (.iconst 1, 1) := by decide +kernel
theorem dX9_holdsWord_10 : decode cX9_holdsWord 10 = .ok (.bipush 10, 2) := by decide +kernel
theorem dX9_holdsWord_12 : decode cX9_holdsWord 12 = .ok (.invokestatic 49, 3) := by decide +kernel
theorem dX9_holdsWord_15 : decode cX9_holdsWord 15 = .ok (.ifCond .ne 5, 3) := by decide +kernel
theorem dX9_holdsWord_18 : decode cX9_holdsWord 18 = .ok (.iconst 0, 1) := by decide +kernel
theorem dX9_holdsWord_19 : decode cX9_holdsWord 19 = .ok (.ireturn, 1) := by decide +kernel
theorem dX9_holdsWord_20 : decode cX9_holdsWord 20 = .ok (.iconst 0, 1) := by decide +kernel
theorem dX9_holdsWord_21 : decode cX9_holdsWord 21 = .ok (.istore_n 1, 1) := by decide +kernel
theorem dX9_holdsWord_22 : decode cX9_holdsWord 22 = .ok (.iload_n 1, 1) := by decide +kernel
theorem dX9_holdsWord_23 : decode cX9_holdsWord 23 = .ok (.aload_n 0, 1) := by decide +kernel
theorem dX9_holdsWord_24 : decode cX9_holdsWord 24 = .ok (.getfield 69, 3) := by decide +kernel
theorem dX9_holdsWord_27 : decode cX9_holdsWord 27 = .ok (.if_icmp .ge 39, 3) := by decide +kernel
theorem dX9_holdsWord_30 : decode cX9_holdsWord 30 = .ok (.aload_n 0, 1) := by decide +kernel
theorem dX9_holdsWord_31 : decode cX9_holdsWord 31 = .ok (.getfield 16, 3) := by decide +kernel
theorem dX9_holdsWord_34 : decode cX9_holdsWord 34 = .ok (.iload_n 1, 1) := by decide +kernel
theorem dX9_holdsWord_35 : decode cX9_holdsWord 35 = .ok (.caload, 1) := by decide +kernel
theorem dX9_holdsWord_36 : decode cX9_holdsWord 36 = .ok (.bipush 97, 2) := by decide +kernel
theorem dX9_holdsWord_38 : decode cX9_holdsWord 38 = .ok (.bipush 122, 2) := by decide +kernel
theorem dX9_holdsWord_40 : decode cX9_holdsWord 40 = .ok (.invokestatic 49, 3) := by decide +kernel
theorem dX9_holdsWord_43 : decode cX9_holdsWord 43 = .ok (.ifCond .ne 5, 3) := by decide +kernel
theorem dX9_holdsWord_46 : decode cX9_holdsWord 46 = .ok (.iconst 0, 1) := by decide +kernel
theorem dX9_holdsWord_47 : decode cX9_holdsWord 47 = .ok (.ireturn, 1) := by decide +kernel
theorem dX9_holdsWord_48 : decode cX9_holdsWord 48 = .ok (.aload_n 0, 1) := by decide +kernel
theorem dX9_holdsWord_49 : decode cX9_holdsWord 49 = .ok (.getfield 20, 3) := by decide +kernel
theorem dX9_holdsWord_52 : decode cX9_holdsWord 52 = .ok (.iload_n 1, 1) := by decide +kernel
theorem dX9_holdsWord_53 : decode cX9_holdsWord 53 = .ok (.aload_n 0, 1) := by decide +kernel
theorem dX9_holdsWord_54 : decode cX9_holdsWord 54 = .ok (.getfield 16, 3) := by decide +kernel
theorem dX9_holdsWord_57 : decode cX9_holdsWord 57 = .ok (.iload_n 1, 1) := by decide +kernel
theorem dX9_holdsWord_58 : decode cX9_holdsWord 58 = .ok (.caload, 1) := by decide +kernel
theorem dX9_holdsWord_59 : decode cX9_holdsWord 59 = .ok (.iastore, 1) := by decide +kernel
theorem dX9_holdsWord_60 : decode cX9_holdsWord 60 = .ok (.iinc 1 1, 3) := by decide +kernel
theorem dX9_holdsWord_63 : decode cX9_holdsWord 63 = .ok (.goto (-41), 3) := by decide +kernel
theorem dX9_holdsWord_66 : decode cX9_holdsWord 66 = .ok (.aload_n 0, 1) := by decide +kernel
theorem dX9_holdsWord_67 : decode cX9_holdsWord 67 = .ok (.aload_n 0, 1) := by decide +kernel
theorem dX9_holdsWord_68 : decode cX9_holdsWord 68 = .ok (.getfield 69, 3) := by decide +kernel
theorem dX9_holdsWord_71 : decode cX9_holdsWord 71 = .ok (.putfield 72, 3) := by decide +kernel
theorem dX9_holdsWord_74 : decode cX9_holdsWord 74 = .ok (.iconst 1, 1) := by decide +kernel
theorem dX9_holdsWord_75 : decode cX9_holdsWord 75 = .ok (.ireturn, 1) := by decide +kernel
theorem dX9_adds_0 : decode cX9_adds 0 = .ok (.aload_n 0, 1) := by decide +kernel
theorem dX9_adds_1 : decode cX9_adds 1 = .ok (.invokevirtual 53, 3) := by decide +kernel
theorem dX9_adds_4 : decode cX9_adds 4 = .ok (.istore_n 1, 1) := by decide +kernel
theorem dX9_adds_5 : decode cX9_adds 5 = .ok (.aload_n 0, 1) := by decide +kernel
theorem dX9_adds_6 : decode cX9_adds 6 = .ok (.iload_n 1, 1) := by decide +kernel
theorem dX9_adds_7 : decode cX9_adds 7 = .ok (.bipush 8, 2) := by decide +kernel
theorem dX9_adds_9 : decode cX9_adds 9 = .ok (.if_icmp .ne 7, 3) := by decide +kernel
theorem dX9_adds_12 : decode cX9_adds 12 = .ok (.iconst 1, 1) := by decide +kernel
theorem dX9_adds_13 : decode cX9_adds 13 = .ok (.goto 4, 3) := by decide +kernel
theorem dX9_adds_16 : decode cX9_adds 16 = .ok (.iconst 0, 1) := by decide +kernel
theorem dX9_adds_17 : decode cX9_adds 17 = .ok (.iconst 1, 1) := by decide +kernel
theorem dX9_adds_18 : decode cX9_adds 18 = .ok (.bipush 8, 2) := by decide +kernel
theorem dX9_adds_20 : decode cX9_adds 20 = .ok (.invokevirtual 65, 3) := by decide +kernel
theorem dX9_adds_23 : decode cX9_adds 23 = .ok (.ifCond .eq 5, 3) := by decide +kernel
theorem dX9_adds_26 : decode cX9_adds 26 = .ok (.iconst 0, 1) := by decide +kernel
theorem dX9_adds_27 : decode cX9_adds 27 = .ok (.ireturn, 1) := by decide +kernel
theorem dX9_adds_28 : decode cX9_adds 28 = .ok (.iconst 0, 1) := by decide +kernel
theorem dX9_adds_29 : decode cX9_adds 29 = .ok (.istore_n 2, 1) := by decide +kernel
theorem dX9_adds_30 : decode cX9_adds 30 = .ok (.iload_n 2, 1) := by decide +kernel
theorem dX9_adds_31 : decode cX9_adds 31 = .ok (.aload_n 0, 1) := by decide +kernel
theorem dX9_adds_32 : decode cX9_adds 32 = .ok (.getfield 72, 3) := by decide +kernel
theorem dX9_adds_35 : decode cX9_adds 35 = .ok (.if_icmp .ge 21, 3) := by decide +kernel
theorem dX9_adds_38 : decode cX9_adds 38 = .ok (.aload_n 0, 1) := by decide +kernel
theorem dX9_adds_39 : decode cX9_adds 39 = .ok (.iload_n 1, 1) := by decide +kernel
theorem dX9_adds_40 : decode cX9_adds 40 = .ok (.iload_n 2, 1) := by decide +kernel
theorem dX9_adds_41 : decode cX9_adds 41 = .ok (.aload_n 0, 1) := by decide +kernel
theorem dX9_adds_42 : decode cX9_adds 42 = .ok (.getfield 20, 3) := by decide +kernel
theorem dX9_adds_45 : decode cX9_adds 45 = .ok (.iload_n 2, 1) := by decide +kernel
theorem dX9_adds_46 : decode cX9_adds 46 = .ok (.iaload, 1) := by decide +kernel
theorem dX9_adds_47 : decode cX9_adds 47 = .ok (.invokevirtual 75, 3) := by decide +kernel
theorem dX9_adds_50 : decode cX9_adds 50 = .ok (.iinc 2 1, 3) := by decide +kernel
theorem dX9_adds_53 : decode cX9_adds 53 = .ok (.goto (-23), 3) := by decide +kernel
theorem dX9_adds_56 : decode cX9_adds 56 = .ok (.aload_n 0, 1) := by decide +kernel
theorem dX9_adds_57 : decode cX9_adds 57 = .ok (.iload_n 1, 1) := by decide +kernel
theorem dX9_adds_58 : decode cX9_adds 58 = .ok (.bipush 10, 2) := by decide +kernel
theorem dX9_adds_60 : decode cX9_adds 60 = .ok (.aload_n 0, 1) := by decide +kernel
theorem dX9_adds_61 : decode cX9_adds 61 = .ok (.getfield 72, 3) := by decide +kernel
theorem dX9_adds_64 : decode cX9_adds 64 = .ok (.invokevirtual 75, 3) := by decide +kernel
theorem dX9_adds_67 : decode cX9_adds 67 = .ok (.aload_n 0, 1) := by decide +kernel
theorem dX9_adds_68 : decode cX9_adds 68 = .ok (.getfield 9, 3) := by decide +kernel
theorem dX9_adds_71 : decode cX9_adds 71 = .ok (.iconst 0, 1) := by decide +kernel
theorem dX9_adds_72 : decode cX9_adds 72 = .ok (.dup2, 1) := by decide +kernel
theorem dX9_adds_73 : decode cX9_adds 73 = .ok (.iaload, 1) := by decide +kernel
theorem dX9_adds_74 : decode cX9_adds 74 = .ok (.iconst 1, 1) := by decide +kernel
theorem dX9_adds_75 : decode cX9_adds 75 = .ok (.iadd, 1) := by decide +kernel
theorem dX9_adds_76 : decode cX9_adds 76 = .ok (.iastore, 1) := by decide +kernel
theorem dX9_adds_77 : decode cX9_adds 77 = .ok (.aload_n 0, 1) := by decide +kernel
theorem dX9_adds_78 : decode cX9_adds 78 = .ok (.iload_n 1, 1) := by decide +kernel
theorem dX9_adds_79 : decode cX9_adds 79 = .ok (.putfield 46, 3) := by decide +kernel
theorem dX9_adds_82 : decode cX9_adds 82 = .ok (.iconst 1, 1) := by decide +kernel
theorem dX9_adds_83 : decode cX9_adds 83 = .ok (.ireturn, 1) := by decide +kernel
theorem dX9_add_0 : decode cX9_add 0 = .ok (.aload_n 0, 1) := by decide +kernel
theorem dX9_add_1 : decode cX9_add 1 = .ok (.invokevirtual 79, 3) := by decide +kernel
theorem dX9_add_4 : decode cX9_add 4 = .ok (.istore_n 1, 1) := by decide +kernel
theorem dX9_add_5 : decode cX9_add 5 = .ok (.aload_n 0, 1) := by decide +kernel
theorem dX9_add_6 : decode cX9_add 6 = .ok (.getfield 69, 3) := by decide +kernel
theorem dX9_add_9 : decode cX9_add 9 = .ok (.istore_n 2, 1) := by decide +kernel
theorem dX9_add_10 : decode cX9_add 10 = .ok (.aload_n 0, 1) := by decide +kernel
theorem dX9_add_11 : decode cX9_add 11 = .ok (.iconst 0, 1) := by decide +kernel
theorem dX9_add_12 : decode cX9_add 12 = .ok (.putfield 69, 3) := by decide +kernel
theorem dX9_add_15 : decode cX9_add 15 = .ok (.aload_n 0, 1) := by decide +kernel
theorem dX9_add_16 : decode cX9_add 16 = .ok (.invokevirtual 83, 3) := by decide +kernel
theorem dX9_add_19 : decode cX9_add 19 = .ok (.aload_n 0, 1) := by decide +kernel
theorem dX9_add_20 : decode cX9_add 20 = .ok (.aload_n 0, 1) := by decide +kernel
theorem dX9_add_21 : decode cX9_add 21 = .ok (.iload_n 1, 1) := by decide +kernel
theorem dX9_add_22 : decode cX9_add 22 = .ok (.ifCond .ne 7, 3) := by decide +kernel
theorem dX9_add_25 : decode cX9_add 25 = .ok (.iconst 1, 1) := by decide +kernel
theorem dX9_add_26 : decode cX9_add 26 = .ok (.goto 4, 3) := by decide +kernel
theorem dX9_add_29 : decode cX9_add 29 = .ok (.iconst 0, 1) := by decide +kernel
theorem dX9_add_30 : decode cX9_add 30 = .ok (.bipush 9, 2) := by decide +kernel
theorem dX9_add_32 : decode cX9_add 32 = .ok (.iload_n 2, 1) := by decide +kernel
theorem dX9_add_33 : decode cX9_add 33 = .ok (.invokevirtual 65, 3) := by decide +kernel
theorem dX9_add_36 : decode cX9_add 36 = .ok (.ifCond .ne 14, 3) := by decide +kernel
theorem dX9_add_39 : decode cX9_add 39 = .ok (.aload_n 0, 1) := by decide +kernel
theorem dX9_add_40 : decode cX9_add 40 = .ok (.invokevirtual 86, 3) := by decide +kernel
theorem dX9_add_43 : decode cX9_add 43 = .ok (.ifCond .eq 7, 3) := by decide +kernel
theorem dX9_add_46 : decode cX9_add 46 = .ok (.iconst 1, 1) := by decide +kernel
theorem dX9_add_47 : decode cX9_add 47 = .ok (.goto 4, 3) := by decide +kernel
theorem dX9_add_50 : decode cX9_add 50 = .ok (.iconst 0, 1) := by decide +kernel
theorem dX9_add_51 : decode cX9_add 51 = .ok (.iconst 1, 1) := by decide +kernel
theorem dX9_add_52 : decode cX9_add 52 = .ok (.invokevirtual 89, 3) := by decide +kernel
theorem dX9_add_55 : decode cX9_add 55 = .ok (.ireturn, 1) := by decide +kernel
theorem dX9_goes_0 : decode cX9_goes 0 = .ok (.bipush 11, 2) := by decide +kernel
theorem dX9_goes_2 : decode cX9_goes 2 = .ok (.iload_n 1, 1) := by decide +kernel
theorem dX9_goes_3 : decode cX9_goes 3 = .ok (.imul, 1) := by decide +kernel
theorem dX9_goes_4 : decode cX9_goes 4 = .ok (.istore_n 2, 1) := by decide +kernel
theorem dX9_goes_5 : decode cX9_goes 5 = .ok (.iload_n 2, 1) := by decide +kernel
theorem dX9_goes_6 : decode cX9_goes 6 = .ok (.bipush 11, 2) := by decide +kernel
theorem dX9_goes_8 : decode cX9_goes 8 = .ok (.aload_n 0, 1) := by decide +kernel
theorem dX9_goes_9 : decode cX9_goes 9 = .ok (.invokevirtual 53, 3) := by decide +kernel
theorem dX9_goes_12 : decode cX9_goes 12 = .ok (.iconst 1, 1) := by decide +kernel
theorem dX9_goes_13 : decode cX9_goes 13 = .ok (.isub, 1) := by decide +kernel
theorem dX9_goes_14 : decode cX9_goes 14 = .ok (.imul, 1) := by decide +kernel
theorem dX9_goes_15 : decode cX9_goes 15 = .ok (.if_icmp .ge 28, 3) := by decide +kernel
theorem dX9_goes_18 : decode cX9_goes 18 = .ok (.aload_n 0, 1) := by decide +kernel
theorem dX9_goes_19 : decode cX9_goes 19 = .ok (.getfield 9, 3) := by decide +kernel
theorem dX9_goes_22 : decode cX9_goes 22 = .ok (.iconst 1, 1) := by decide +kernel
theorem dX9_goes_23 : decode cX9_goes 23 = .ok (.iload_n 2, 1) := by decide +kernel
theorem dX9_goes_24 : decode cX9_goes 24 = .ok (.iadd, 1) := by decide +kernel
theorem dX9_goes_25 : decode cX9_goes 25 = .ok (.aload_n 0, 1) := by decide +kernel
theorem dX9_goes_26 : decode cX9_goes 26 = .ok (.getfield 9, 3) := by decide +kernel
theorem dX9_goes_29 : decode cX9_goes 29 = .ok (.iconst 1, 1) := by decide +kernel
theorem dX9_goes_30 : decode cX9_goes 30 = .ok (.iload_n 2, 1) := by decide +kernel
theorem dX9_goes_31 : decode cX9_goes 31 = .ok (.iadd, 1) := by decide +kernel
theorem dX9_goes_32 : decode cX9_goes 32 = .ok (.bipush 11, 2) := by decide +kernel
theorem dX9_goes_34 : decode cX9_goes 34 = .ok (.iadd, 1) := by decide +kernel
theorem dX9_goes_35 : decode cX9_goes 35 = .ok (.iaload, 1) := by decide +kernel
theorem dX9_goes_36 : decode cX9_goes 36 = .ok (.iastore, 1) := by decide +kernel
theorem dX9_goes_37 : decode cX9_goes 37 = .ok (.iinc 2 1, 3) := by decide +kernel
theorem dX9_goes_40 : decode cX9_goes 40 = .ok (.goto (-35), 3) := by decide +kernel
theorem dX9_goes_43 : decode cX9_goes 43 = .ok (.aload_n 0, 1) := by decide +kernel
theorem dX9_goes_44 : decode cX9_goes 44 = .ok (.getfield 9, 3) := by decide +kernel
theorem dX9_goes_47 : decode cX9_goes 47 = .ok (.iconst 0, 1) := by decide +kernel
theorem dX9_goes_48 : decode cX9_goes 48 = .ok (.dup2, 1) := by decide +kernel
theorem dX9_goes_49 : decode cX9_goes 49 = .ok (.iaload, 1) := by decide +kernel
theorem dX9_goes_50 : decode cX9_goes 50 = .ok (.iconst 1, 1) := by decide +kernel
theorem dX9_goes_51 : decode cX9_goes 51 = .ok (.isub, 1) := by decide +kernel
theorem dX9_goes_52 : decode cX9_goes 52 = .ok (.iastore, 1) := by decide +kernel
theorem dX9_goes_53 : decode cX9_goes 53 = .ok (.return_, 1) := by decide +kernel
theorem dX9_cuts_0 : decode cX9_cuts 0 = .ok (.aload_n 0, 1) := by decide +kernel
theorem dX9_cuts_1 : decode cX9_cuts 1 = .ok (.iload_n 1, 1) := by decide +kernel
theorem dX9_cuts_2 : decode cX9_cuts 2 = .ok (.invokevirtual 93, 3) := by decide +kernel
theorem dX9_cuts_5 : decode cX9_cuts 5 = .ok (.ifCond .eq 5, 3) := by decide +kernel
theorem dX9_cuts_8 : decode cX9_cuts 8 = .ok (.iconst 0, 1) := by decide +kernel
theorem dX9_cuts_9 : decode cX9_cuts 9 = .ok (.ireturn, 1) := by decide +kernel
theorem dX9_cuts_10 : decode cX9_cuts 10 = .ok (.aload_n 0, 1) := by decide +kernel
theorem dX9_cuts_11 : decode cX9_cuts 11 = .ok (.iload_n 1, 1) := by decide +kernel
theorem dX9_cuts_12 : decode cX9_cuts 12 = .ok (.invokevirtual 96, 3) := by decide +kernel
theorem dX9_cuts_15 : decode cX9_cuts 15 = .ok (.aload_n 0, 1) := by decide +kernel
theorem dX9_cuts_16 : decode cX9_cuts 16 = .ok (.aload_n 0, 1) := by decide +kernel
theorem dX9_cuts_17 : decode cX9_cuts 17 = .ok (.invokevirtual 53, 3) := by decide +kernel
theorem dX9_cuts_20 : decode cX9_cuts 20 = .ok (.putfield 46, 3) := by decide +kernel
theorem dX9_cuts_23 : decode cX9_cuts 23 = .ok (.iconst 1, 1) := by decide +kernel
theorem dX9_cuts_24 : decode cX9_cuts 24 = .ok (.ireturn, 1) := by decide +kernel
theorem dX9_cut_0 : decode cX9_cut 0 = .ok (.aload_n 0, 1) := by decide +kernel
theorem dX9_cut_1 : decode cX9_cut 1 = .ok (.invokevirtual 83, 3) := by decide +kernel
theorem dX9_cut_4 : decode cX9_cut 4 = .ok (.aload_n 0, 1) := by decide +kernel
theorem dX9_cut_5 : decode cX9_cut 5 = .ok (.aload_n 0, 1) := by decide +kernel
theorem dX9_cut_6 : decode cX9_cut 6 = .ok (.iload_n 1, 1) := by decide +kernel
theorem dX9_cut_7 : decode cX9_cut 7 = .ok (.invokevirtual 100, 3) := by decide +kernel
theorem dX9_cut_10 : decode cX9_cut 10 = .ok (.iconst 1, 1) := by decide +kernel
theorem dX9_cut_11 : decode cX9_cut 11 = .ok (.invokevirtual 89, 3) := by decide +kernel
theorem dX9_cut_14 : decode cX9_cut 14 = .ok (.ireturn, 1) := by decide +kernel
theorem dX9_sets_0 : decode cX9_sets 0 = .ok (.aload_n 0, 1) := by decide +kernel
theorem dX9_sets_1 : decode cX9_sets 1 = .ok (.iload_n 1, 1) := by decide +kernel
theorem dX9_sets_2 : decode cX9_sets 2 = .ok (.invokevirtual 93, 3) := by decide +kernel
theorem dX9_sets_5 : decode cX9_sets 5 = .ok (.ifCond .ne 75, 3) := by decide +kernel
theorem dX9_sets_8 : decode cX9_sets 8 = .ok (.aload_n 0, 1) := by decide +kernel
theorem dX9_sets_9 : decode cX9_sets 9 = .ok (.aload_n 0, 1) := by decide +kernel
theorem dX9_sets_10 : decode cX9_sets 10 = .ok (.iload_n 1, 1) := by decide +kernel
theorem dX9_sets_11 : decode cX9_sets 11 = .ok (.iload_n 2, 1) := by decide +kernel
theorem dX9_sets_12 : decode cX9_sets 12 = .ok (.invokevirtual 103, 3) := by decide +kernel
theorem dX9_sets_15 : decode cX9_sets 15 = .ok (.ifCond .ne 7, 3) := by decide +kernel
theorem dX9_sets_18 : decode cX9_sets 18 = .ok (.iconst 1, 1) := by decide +kernel
theorem dX9_sets_19 : decode cX9_sets 19 = .ok (.goto 4, 3) := by decide +kernel
theorem dX9_sets_22 : decode cX9_sets 22 = .ok (.iconst 0, 1) := by decide +kernel
theorem dX9_sets_23 : decode cX9_sets 23 = .ok (.iconst 3, 1) := by decide +kernel
theorem dX9_sets_24 : decode cX9_sets 24 = .ok (.iload_n 2, 1) := by decide +kernel
theorem dX9_sets_25 : decode cX9_sets 25 = .ok (.invokevirtual 65, 3) := by decide +kernel
theorem dX9_sets_28 : decode cX9_sets 28 = .ok (.ifCond .ne 52, 3) := by decide +kernel
theorem dX9_sets_31 : decode cX9_sets 31 = .ok (.aload_n 0, 1) := by decide +kernel
theorem dX9_sets_32 : decode cX9_sets 32 = .ok (.iload_n 3, 1) := by decide +kernel
theorem dX9_sets_33 : decode cX9_sets 33 = .ok (.bipush 97, 2) := by decide +kernel
theorem dX9_sets_35 : decode cX9_sets 35 = .ok (.bipush 122, 2) := by decide +kernel
theorem dX9_sets_37 : decode cX9_sets 37 = .ok (.invokestatic 49, 3) := by decide +kernel
theorem dX9_sets_40 : decode cX9_sets 40 = .ok (.ifCond .ne 7, 3) := by decide +kernel
theorem dX9_sets_43 : decode cX9_sets 43 = .ok (.iconst 1, 1) := by decide +kernel
theorem dX9_sets_44 : decode cX9_sets 44 = .ok (.goto 4, 3) := by decide +kernel
theorem dX9_sets_47 : decode cX9_sets 47 = .ok (.iconst 0, 1) := by decide +kernel
theorem dX9_sets_48 : decode cX9_sets 48 = .ok (.iconst 4, 1) := by decide +kernel
theorem dX9_sets_49 : decode cX9_sets 49 = .ok (.iload_n 3, 1) := by decide +kernel
theorem dX9_sets_50 : decode cX9_sets 50 = .ok (.invokevirtual 65, 3) := by decide +kernel
theorem dX9_sets_53 : decode cX9_sets 53 = .ok (.ifCond .ne 27, 3) := by decide +kernel
theorem dX9_sets_56 : decode cX9_sets 56 = .ok (.aload_n 0, 1) := by decide +kernel
theorem dX9_sets_57 : decode cX9_sets 57 = .ok (.aload_n 0, 1) := by decide +kernel
theorem dX9_sets_58 : decode cX9_sets 58 = .ok (.iload_n 1, 1) := by decide +kernel
theorem dX9_sets_59 : decode cX9_sets 59 = .ok (.iload_n 2, 1) := by decide +kernel
theorem dX9_sets_60 : decode cX9_sets 60 = .ok (.invokevirtual 107, 3) := by decide +kernel
theorem dX9_sets_63 : decode cX9_sets 63 = .ok (.iload_n 3, 1) := by decide +kernel
theorem dX9_sets_64 : decode cX9_sets 64 = .ok (.if_icmp .ne 7, 3) := by decide +kernel
theorem dX9_sets_67 : decode cX9_sets 67 = .ok (.iconst 1, 1) := by decide +kernel
theorem dX9_sets_68 : decode cX9_sets 68 = .ok (.goto 4, 3) := by decide +kernel
theorem dX9_sets_71 : decode cX9_sets 71 = .ok (.iconst 0, 1) := by decide +kernel
theorem dX9_sets_72 : decode cX9_sets 72 = .ok (.iconst 5, 1) := by decide +kernel
theorem dX9_sets_73 : decode cX9_sets 73 = .ok (.iload_n 2, 1) := by decide +kernel
theorem dX9_sets_74 : decode cX9_sets 74 = .ok (.invokevirtual 65, 3) := by decide +kernel
theorem dX9_sets_77 : decode cX9_sets 77 = .ok (.ifCond .eq 5, 3) := by decide +kernel
theorem dX9_sets_80 : decode cX9_sets 80 = .ok (.iconst 0, 1) := by decide +kernel
theorem dX9_sets_81 : decode cX9_sets 81 = .ok (.ireturn, 1) := by decide +kernel
theorem dX9_sets_82 : decode cX9_sets 82 = .ok (.aload_n 0, 1) := by decide +kernel
theorem dX9_sets_83 : decode cX9_sets 83 = .ok (.iload_n 1, 1) := by decide +kernel
theorem dX9_sets_84 : decode cX9_sets 84 = .ok (.iload_n 2, 1) := by decide +kernel
theorem dX9_sets_85 : decode cX9_sets 85 = .ok (.iload_n 3, 1) := by decide +kernel
theorem dX9_sets_86 : decode cX9_sets 86 = .ok (.invokevirtual 75, 3) := by decide +kernel
theorem dX9_sets_89 : decode cX9_sets 89 = .ok (.aload_n 0, 1) := by decide +kernel
theorem dX9_sets_90 : decode cX9_sets 90 = .ok (.aload_n 0, 1) := by decide +kernel
theorem dX9_sets_91 : decode cX9_sets 91 = .ok (.iload_n 1, 1) := by decide +kernel
theorem dX9_sets_92 : decode cX9_sets 92 = .ok (.iload_n 2, 1) := by decide +kernel
theorem dX9_sets_93 : decode cX9_sets 93 = .ok (.invokevirtual 111, 3) := by decide +kernel
theorem dX9_sets_96 : decode cX9_sets 96 = .ok (.putfield 46, 3) := by decide +kernel
theorem dX9_sets_99 : decode cX9_sets 99 = .ok (.iconst 1, 1) := by decide +kernel
theorem dX9_sets_100 : decode cX9_sets 100 = .ok (.ireturn, 1) := by decide +kernel
theorem dX9_change_0 : decode cX9_change 0 = .ok (.aload_n 0, 1) := by decide +kernel
theorem dX9_change_1 : decode cX9_change 1 = .ok (.invokevirtual 83, 3) := by decide +kernel
theorem dX9_change_4 : decode cX9_change 4 = .ok (.aload_n 0, 1) := by decide +kernel
theorem dX9_change_5 : decode cX9_change 5 = .ok (.aload_n 0, 1) := by decide +kernel
theorem dX9_change_6 : decode cX9_change 6 = .ok (.iload_n 1, 1) := by decide +kernel
theorem dX9_change_7 : decode cX9_change 7 = .ok (.iload_n 2, 1) := by decide +kernel
theorem dX9_change_8 : decode cX9_change 8 = .ok (.iload_n 3, 1) := by decide +kernel
theorem dX9_change_9 : decode cX9_change 9 = .ok (.invokevirtual 114, 3) := by decide +kernel
theorem dX9_change_12 : decode cX9_change 12 = .ok (.iconst 1, 1) := by decide +kernel
theorem dX9_change_13 : decode cX9_change 13 = .ok (.invokevirtual 89, 3) := by decide +kernel
theorem dX9_change_16 : decode cX9_change 16 = .ok (.ireturn, 1) := by decide +kernel
theorem dX9_areOne_0 : decode cX9_areOne 0 = .ok (.aload_n 0, 1) := by decide +kernel
theorem dX9_areOne_1 : decode cX9_areOne 1 = .ok (.iload_n 1, 1) := by decide +kernel
theorem dX9_areOne_2 : decode cX9_areOne 2 = .ok (.invokevirtual 93, 3) := by decide +kernel
theorem dX9_areOne_5 : decode cX9_areOne 5 = .ok (.ifCond .ne 31, 3) := by decide +kernel
theorem dX9_areOne_8 : decode cX9_areOne 8 = .ok (.aload_n 0, 1) := by decide +kernel
theorem dX9_areOne_9 : decode cX9_areOne 9 = .ok (.iload_n 2, 1) := by decide +kernel
theorem dX9_areOne_10 : decode cX9_areOne 10 = .ok (.invokevirtual 93, 3) := by decide +kernel
theorem dX9_areOne_13 : decode cX9_areOne 13 = .ok (.ifCond .ne 23, 3) := by decide +kernel
theorem dX9_areOne_16 : decode cX9_areOne 16 = .ok (.aload_n 0, 1) := by decide +kernel
theorem dX9_areOne_17 : decode cX9_areOne 17 = .ok (.iload_n 1, 1) := by decide +kernel
theorem dX9_areOne_18 : decode cX9_areOne 18 = .ok (.iload_n 2, 1) := by decide +kernel
theorem dX9_areOne_19 : decode cX9_areOne 19 = .ok (.if_icmp .ne 7, 3) := by decide +kernel
theorem dX9_areOne_22 : decode cX9_areOne 22 = .ok (.iconst 1, 1) := by decide +kernel
theorem dX9_areOne_23 : decode cX9_areOne 23 = .ok (.goto 4, 3) := by decide +kernel
theorem dX9_areOne_26 : decode cX9_areOne 26 = .ok (.iconst 0, 1) := by decide +kernel
theorem dX9_areOne_27 : decode cX9_areOne 27 = .ok (.bipush 6, 2) := by decide +kernel
theorem dX9_areOne_29 : decode cX9_areOne 29 = .ok (.iload_n 1, 1) := by decide +kernel
theorem dX9_areOne_30 : decode cX9_areOne 30 = .ok (.invokevirtual 65, 3) := by decide +kernel
theorem dX9_areOne_33 : decode cX9_areOne 33 = .ok (.ifCond .eq 7, 3) := by decide +kernel
theorem dX9_areOne_36 : decode cX9_areOne 36 = .ok (.iconst 1, 1) := by decide +kernel
theorem dX9_areOne_37 : decode cX9_areOne 37 = .ok (.goto 4, 3) := by decide +kernel
theorem dX9_areOne_40 : decode cX9_areOne 40 = .ok (.iconst 0, 1) := by decide +kernel
theorem dX9_areOne_41 : decode cX9_areOne 41 = .ok (.ireturn, 1) := by decide +kernel
theorem dX9_swaps_0 : decode cX9_swaps 0 = .ok (.aload_n 0, 1) := by decide +kernel
theorem dX9_swaps_1 : decode cX9_swaps 1 = .ok (.iload_n 1, 1) := by decide +kernel
theorem dX9_swaps_2 : decode cX9_swaps 2 = .ok (.iload_n 2, 1) := by decide +kernel
theorem dX9_swaps_3 : decode cX9_swaps 3 = .ok (.invokevirtual 117, 3) := by decide +kernel
theorem dX9_swaps_6 : decode cX9_swaps 6 = .ok (.ifCond .eq 5, 3) := by decide +kernel
theorem dX9_swaps_9 : decode cX9_swaps 9 = .ok (.iconst 0, 1) := by decide +kernel
theorem dX9_swaps_10 : decode cX9_swaps 10 = .ok (.ireturn, 1) := by decide +kernel
theorem dX9_swaps_11 : decode cX9_swaps 11 = .ok (.iconst 0, 1) := by decide +kernel
theorem dX9_swaps_12 : decode cX9_swaps 12 = .ok (.istore_n 3, 1) := by decide +kernel
theorem dX9_swaps_13 : decode cX9_swaps 13 = .ok (.iload_n 3, 1) := by decide +kernel
theorem dX9_swaps_14 : decode cX9_swaps 14 = .ok (.bipush 11, 2) := by decide +kernel
theorem dX9_swaps_16 : decode cX9_swaps 16 = .ok (.if_icmp .ge 37, 3) := by decide +kernel
theorem dX9_swaps_19 : decode cX9_swaps 19 = .ok (.aload_n 0, 1) := by decide +kernel
theorem dX9_swaps_20 : decode cX9_swaps 20 = .ok (.iload_n 1, 1) := by decide +kernel
theorem dX9_swaps_21 : decode cX9_swaps 21 = .ok (.iload_n 3, 1) := by decide +kernel
theorem dX9_swaps_22 : decode cX9_swaps 22 = .ok (.invokevirtual 107, 3) := by decide +kernel
theorem dX9_swaps_25 : decode cX9_swaps 25 = .ok (.istore 4, 2) := by decide +kernel
theorem dX9_swaps_27 : decode cX9_swaps 27 = .ok (.aload_n 0, 1) := by decide +kernel
theorem dX9_swaps_28 : decode cX9_swaps 28 = .ok (.iload_n 1, 1) := by decide +kernel
theorem dX9_swaps_29 : decode cX9_swaps 29 = .ok (.iload_n 3, 1) := by decide +kernel
theorem dX9_swaps_30 : decode cX9_swaps 30 = .ok (.aload_n 0, 1) := by decide +kernel
theorem dX9_swaps_31 : decode cX9_swaps 31 = .ok (.iload_n 2, 1) := by decide +kernel
theorem dX9_swaps_32 : decode cX9_swaps 32 = .ok (.iload_n 3, 1) := by decide +kernel
theorem dX9_swaps_33 : decode cX9_swaps 33 = .ok (.invokevirtual 107, 3) := by decide +kernel
theorem dX9_swaps_36 : decode cX9_swaps 36 = .ok (.invokevirtual 75, 3) := by decide +kernel
theorem dX9_swaps_39 : decode cX9_swaps 39 = .ok (.aload_n 0, 1) := by decide +kernel
theorem dX9_swaps_40 : decode cX9_swaps 40 = .ok (.iload_n 2, 1) := by decide +kernel
theorem dX9_swaps_41 : decode cX9_swaps 41 = .ok (.iload_n 3, 1) := by decide +kernel
theorem dX9_swaps_42 : decode cX9_swaps 42 = .ok (.iload 4, 2) := by decide +kernel
theorem dX9_swaps_44 : decode cX9_swaps 44 = .ok (.invokevirtual 75, 3) := by decide +kernel
theorem dX9_swaps_47 : decode cX9_swaps 47 = .ok (.iinc 3 1, 3) := by decide +kernel
theorem dX9_swaps_50 : decode cX9_swaps 50 = .ok (.goto (-37), 3) := by decide +kernel
theorem dX9_swaps_53 : decode cX9_swaps 53 = .ok (.aload_n 0, 1) := by decide +kernel
theorem dX9_swaps_54 : decode cX9_swaps 54 = .ok (.aload_n 0, 1) := by decide +kernel
theorem dX9_swaps_55 : decode cX9_swaps 55 = .ok (.iload_n 1, 1) := by decide +kernel
theorem dX9_swaps_56 : decode cX9_swaps 56 = .ok (.invokevirtual 61, 3) := by decide +kernel
theorem dX9_swaps_59 : decode cX9_swaps 59 = .ok (.aload_n 0, 1) := by decide +kernel
theorem dX9_swaps_60 : decode cX9_swaps 60 = .ok (.iload_n 2, 1) := by decide +kernel
theorem dX9_swaps_61 : decode cX9_swaps 61 = .ok (.invokevirtual 61, 3) := by decide +kernel
theorem dX9_swaps_64 : decode cX9_swaps 64 = .ok (.if_icmp .le 11, 3) := by decide +kernel
theorem dX9_swaps_67 : decode cX9_swaps 67 = .ok (.aload_n 0, 1) := by decide +kernel
theorem dX9_swaps_68 : decode cX9_swaps 68 = .ok (.iload_n 1, 1) := by decide +kernel
theorem dX9_swaps_69 : decode cX9_swaps 69 = .ok (.invokevirtual 61, 3) := by decide +kernel
theorem dX9_swaps_72 : decode cX9_swaps 72 = .ok (.goto 8, 3) := by decide +kernel
theorem dX9_swaps_75 : decode cX9_swaps 75 = .ok (.aload_n 0, 1) := by decide +kernel
theorem dX9_swaps_76 : decode cX9_swaps 76 = .ok (.iload_n 2, 1) := by decide +kernel
theorem dX9_swaps_77 : decode cX9_swaps 77 = .ok (.invokevirtual 61, 3) := by decide +kernel
theorem dX9_swaps_80 : decode cX9_swaps 80 = .ok (.putfield 46, 3) := by decide +kernel
theorem dX9_swaps_83 : decode cX9_swaps 83 = .ok (.iconst 1, 1) := by decide +kernel
theorem dX9_swaps_84 : decode cX9_swaps 84 = .ok (.ireturn, 1) := by decide +kernel
theorem dX9_swap_0 : decode cX9_swap 0 = .ok (.aload_n 0, 1) := by decide +kernel
theorem dX9_swap_1 : decode cX9_swap 1 = .ok (.invokevirtual 83, 3) := by decide +kernel
theorem dX9_swap_4 : decode cX9_swap 4 = .ok (.aload_n 0, 1) := by decide +kernel
theorem dX9_swap_5 : decode cX9_swap 5 = .ok (.aload_n 0, 1) := by decide +kernel
theorem dX9_swap_6 : decode cX9_swap 6 = .ok (.iload_n 1, 1) := by decide +kernel
theorem dX9_swap_7 : decode cX9_swap 7 = .ok (.iload_n 2, 1) := by decide +kernel
theorem dX9_swap_8 : decode cX9_swap 8 = .ok (.invokevirtual 120, 3) := by decide +kernel
theorem dX9_swap_11 : decode cX9_swap 11 = .ok (.iconst 1, 1) := by decide +kernel
theorem dX9_swap_12 : decode cX9_swap 12 = .ok (.invokevirtual 89, 3) := by decide +kernel
theorem dX9_swap_15 : decode cX9_swap 15 = .ok (.ireturn, 1) := by decide +kernel
theorem dX9_joins_0 : decode cX9_joins 0 = .ok (.aload_n 0, 1) := by decide +kernel
theorem dX9_joins_1 : decode cX9_joins 1 = .ok (.iload_n 1, 1) := by decide +kernel
theorem dX9_joins_2 : decode cX9_joins 2 = .ok (.iload_n 2, 1) := by decide +kernel
theorem dX9_joins_3 : decode cX9_joins 3 = .ok (.invokevirtual 117, 3) := by decide +kernel
theorem dX9_joins_6 : decode cX9_joins 6 = .ok (.ifCond .eq 5, 3) := by decide +kernel
theorem dX9_joins_9 : decode cX9_joins 9 = .ok (.iconst 0, 1) := by decide +kernel
theorem dX9_joins_10 : decode cX9_joins 10 = .ok (.ireturn, 1) := by decide +kernel
theorem dX9_joins_11 : decode cX9_joins 11 = .ok (.aload_n 0, 1) := by decide +kernel
theorem dX9_joins_12 : decode cX9_joins 12 = .ok (.iload_n 1, 1) := by decide +kernel
theorem dX9_joins_13 : decode cX9_joins 13 = .ok (.invokevirtual 61, 3) := by decide +kernel
theorem dX9_joins_16 : decode cX9_joins 16 = .ok (.istore_n 3, 1) := by decide +kernel
theorem dX9_joins_17 : decode cX9_joins 17 = .ok (.aload_n 0, 1) := by decide +kernel
theorem dX9_joins_18 : decode cX9_joins 18 = .ok (.iload_n 2, 1) := by decide +kernel
theorem dX9_joins_19 : decode cX9_joins 19 = .ok (.invokevirtual 61, 3) := by decide +kernel
theorem dX9_joins_22 : decode cX9_joins 22 = .ok (.istore 4, 2) := by decide +kernel
theorem dX9_joins_24 : decode cX9_joins 24 = .ok (.aload_n 0, 1) := by decide +kernel
theorem dX9_joins_25 : decode cX9_joins 25 = .ok (.iload_n 3, 1) := by decide +kernel
theorem dX9_joins_26 : decode cX9_joins 26 = .ok (.iload 4, 2) := by decide +kernel
theorem dX9_joins_28 : decode cX9_joins 28 = .ok (.iadd, 1) := by decide +kernel
theorem dX9_joins_29 : decode cX9_joins 29 = .ok (.bipush 10, 2) := by decide +kernel
theorem dX9_joins_31 : decode cX9_joins 31 = .ok (.if_icmp .le 7, 3) := by decide +kernel
theorem dX9_joins_34 : decode cX9_joins 34 = .ok (.iconst 1, 1) := by decide +kernel
theorem dX9_joins_35 : decode cX9_joins 35 = .ok (.goto 4, 3) := by decide +kernel
theorem dX9_joins_38 : decode cX9_joins 38 = .ok (.iconst 0, 1) := by decide +kernel
theorem dX9_joins_39 : decode cX9_joins 39 = .ok (.bipush 7, 2) := by decide +kernel
theorem dX9_joins_41 : decode cX9_joins 41 = .ok (.iload_n 3, 1) := by decide +kernel
theorem dX9_joins_42 : decode cX9_joins 42 = .ok (.iload 4, 2) := by decide +kernel
theorem dX9_joins_44 : decode cX9_joins 44 = .ok (.iadd, 1) := by decide +kernel
theorem dX9_joins_45 : decode cX9_joins 45 = .ok (.invokevirtual 65, 3) := by decide +kernel
theorem dX9_joins_48 : decode cX9_joins 48 = .ok (.ifCond .eq 21, 3) := by decide +kernel
theorem dX9_joins_51 : decode cX9_joins 51 = .ok (.aload_n 0, 1) := by decide +kernel
theorem dX9_joins_52 : decode cX9_joins 52 = .ok (.getfield 13, 3) := by decide +kernel
theorem dX9_joins_55 : decode cX9_joins 55 = .ok (.iconst 2, 1) := by decide +kernel
theorem dX9_joins_56 : decode cX9_joins 56 = .ok (.bipush 11, 2) := by decide +kernel
theorem dX9_joins_58 : decode cX9_joins 58 = .ok (.iastore, 1) := by decide +kernel
theorem dX9_joins_59 : decode cX9_joins 59 = .ok (.aload_n 0, 1) := by decide +kernel
theorem dX9_joins_60 : decode cX9_joins 60 = .ok (.getfield 13, 3) := by decide +kernel
theorem dX9_joins_63 : decode cX9_joins 63 = .ok (.iconst 3, 1) := by decide +kernel
theorem dX9_joins_64 : decode cX9_joins 64 = .ok (.iload 4, 2) := by decide +kernel
theorem dX9_joins_66 : decode cX9_joins 66 = .ok (.iastore, 1) := by decide +kernel
theorem dX9_joins_67 : decode cX9_joins 67 = .ok (.iconst 0, 1) := by decide +kernel
theorem dX9_joins_68 : decode cX9_joins 68 = .ok (.ireturn, 1) := by decide +kernel
theorem dX9_joins_69 : decode cX9_joins 69 = .ok (.iconst 0, 1) := by decide +kernel
theorem dX9_joins_70 : decode cX9_joins 70 = .ok (.istore 5, 2) := by decide +kernel
theorem dX9_joins_72 : decode cX9_joins 72 = .ok (.iload 5, 2) := by decide +kernel
theorem dX9_joins_74 : decode cX9_joins 74 = .ok (.iload 4, 2) := by decide +kernel
theorem dX9_joins_76 : decode cX9_joins 76 = .ok (.if_icmp .ge 25, 3) := by decide +kernel
theorem dX9_joins_79 : decode cX9_joins 79 = .ok (.aload_n 0, 1) := by decide +kernel
theorem dX9_joins_80 : decode cX9_joins 80 = .ok (.iload_n 1, 1) := by decide +kernel
theorem dX9_joins_81 : decode cX9_joins 81 = .ok (.iload_n 3, 1) := by decide +kernel
theorem dX9_joins_82 : decode cX9_joins 82 = .ok (.iload 5, 2) := by decide +kernel
theorem dX9_joins_84 : decode cX9_joins 84 = .ok (.iadd, 1) := by decide +kernel
theorem dX9_joins_85 : decode cX9_joins 85 = .ok (.aload_n 0, 1) := by decide +kernel
theorem dX9_joins_86 : decode cX9_joins 86 = .ok (.iload_n 2, 1) := by decide +kernel
theorem dX9_joins_87 : decode cX9_joins 87 = .ok (.iload 5, 2) := by decide +kernel
theorem dX9_joins_89 : decode cX9_joins 89 = .ok (.invokevirtual 107, 3) := by decide +kernel
theorem dX9_joins_92 : decode cX9_joins 92 = .ok (.invokevirtual 75, 3) := by decide +kernel
theorem dX9_joins_95 : decode cX9_joins 95 = .ok (.iinc 5 1, 3) := by decide +kernel
theorem dX9_joins_98 : decode cX9_joins 98 = .ok (.goto (-26), 3) := by decide +kernel
theorem dX9_joins_101 : decode cX9_joins 101 = .ok (.aload_n 0, 1) := by decide +kernel
theorem dX9_joins_102 : decode cX9_joins 102 = .ok (.iload_n 1, 1) := by decide +kernel
theorem dX9_joins_103 : decode cX9_joins 103 = .ok (.bipush 10, 2) := by decide +kernel
theorem dX9_joins_105 : decode cX9_joins 105 = .ok (.iload_n 3, 1) := by decide +kernel
theorem dX9_joins_106 : decode cX9_joins 106 = .ok (.iload 4, 2) := by decide +kernel
theorem dX9_joins_108 : decode cX9_joins 108 = .ok (.iadd, 1) := by decide +kernel
theorem dX9_joins_109 : decode cX9_joins 109 = .ok (.invokevirtual 75, 3) := by decide +kernel
theorem dX9_joins_112 : decode cX9_joins 112 = .ok (.aload_n 0, 1) := by decide +kernel
theorem dX9_joins_113 : decode cX9_joins 113 = .ok (.iload_n 2, 1) := by decide +kernel
theorem dX9_joins_114 : decode cX9_joins 114 = .ok (.invokevirtual 96, 3) := by decide +kernel
theorem dX9_joins_117 : decode cX9_joins 117 = .ok (.aload_n 0, 1) := by decide +kernel
theorem dX9_joins_118 : decode cX9_joins 118 = .ok (.iload_n 2, 1) := by decide +kernel
theorem dX9_joins_119 : decode cX9_joins 119 = .ok (.iload_n 1, 1) := by decide +kernel
theorem dX9_joins_120 : decode cX9_joins 120 = .ok (.if_icmp .ge 9, 3) := by decide +kernel
theorem dX9_joins_123 : decode cX9_joins 123 = .ok (.iload_n 1, 1) := by decide +kernel
theorem dX9_joins_124 : decode cX9_joins 124 = .ok (.iconst 1, 1) := by decide +kernel
theorem dX9_joins_125 : decode cX9_joins 125 = .ok (.isub, 1) := by decide +kernel
theorem dX9_joins_126 : decode cX9_joins 126 = .ok (.goto 4, 3) := by decide +kernel
theorem dX9_joins_129 : decode cX9_joins 129 = .ok (.iload_n 1, 1) := by decide +kernel
theorem dX9_joins_130 : decode cX9_joins 130 = .ok (.putfield 46, 3) := by decide +kernel
theorem dX9_joins_133 : decode cX9_joins 133 = .ok (.iconst 1, 1) := by decide +kernel
theorem dX9_joins_134 : decode cX9_joins 134 = .ok (.ireturn, 1) := by decide +kernel
theorem dX9_join_0 : decode cX9_join 0 = .ok (.aload_n 0, 1) := by decide +kernel
theorem dX9_join_1 : decode cX9_join 1 = .ok (.invokevirtual 83, 3) := by decide +kernel
theorem dX9_join_4 : decode cX9_join 4 = .ok (.aload_n 0, 1) := by decide +kernel
theorem dX9_join_5 : decode cX9_join 5 = .ok (.aload_n 0, 1) := by decide +kernel
theorem dX9_join_6 : decode cX9_join 6 = .ok (.iload_n 1, 1) := by decide +kernel
theorem dX9_join_7 : decode cX9_join 7 = .ok (.iload_n 2, 1) := by decide +kernel
theorem dX9_join_8 : decode cX9_join 8 = .ok (.invokevirtual 123, 3) := by decide +kernel
theorem dX9_join_11 : decode cX9_join 11 = .ok (.iconst 1, 1) := by decide +kernel
theorem dX9_join_12 : decode cX9_join 12 = .ok (.invokevirtual 89, 3) := by decide +kernel
theorem dX9_join_15 : decode cX9_join 15 = .ok (.ireturn, 1) := by decide +kernel
theorem dX9_isBack_0 : decode cX9_isBack 0 = .ok (.aload_n 0, 1) := by decide +kernel
theorem dX9_isBack_1 : decode cX9_isBack 1 = .ok (.iload_n 1, 1) := by decide +kernel
theorem dX9_isBack_2 : decode cX9_isBack 2 = .ok (.invokevirtual 61, 3) := by decide +kernel
theorem dX9_isBack_5 : decode cX9_isBack 5 = .ok (.istore_n 3, 1) := by decide +kernel
theorem dX9_isBack_6 : decode cX9_isBack 6 = .ok (.iload_n 3, 1) := by decide +kernel
theorem dX9_isBack_7 : decode cX9_isBack 7 = .ok (.aload_n 0, 1) := by decide +kernel
theorem dX9_isBack_8 : decode cX9_isBack 8 = .ok (.iload_n 2, 1) := by decide +kernel
theorem dX9_isBack_9 : decode cX9_isBack 9 = .ok (.invokevirtual 61, 3) := by decide +kernel
theorem dX9_isBack_12 : decode cX9_isBack 12 = .ok (.if_icmp .eq 5, 3) := by decide +kernel
theorem dX9_isBack_15 : decode cX9_isBack 15 = .ok (.iconst 0, 1) := by decide +kernel
theorem dX9_isBack_16 : decode cX9_isBack 16 = .ok (.ireturn, 1) := by decide +kernel
theorem dX9_isBack_17 : decode cX9_isBack 17 = .ok (.iconst 0, 1) := by decide +kernel
theorem dX9_isBack_18 : decode cX9_isBack 18 = .ok (.istore 4, 2) := by decide +kernel
theorem dX9_isBack_20 : decode cX9_isBack 20 = .ok (.iload 4, 2) := by decide +kernel
theorem dX9_isBack_22 : decode cX9_isBack 22 = .ok (.iload_n 3, 1) := by decide +kernel
theorem dX9_isBack_23 : decode cX9_isBack 23 = .ok (.if_icmp .ge 32, 3) := by decide +kernel
theorem dX9_isBack_26 : decode cX9_isBack 26 = .ok (.aload_n 0, 1) := by decide +kernel
theorem dX9_isBack_27 : decode cX9_isBack 27 = .ok (.iload_n 1, 1) := by decide +kernel
theorem dX9_isBack_28 : decode cX9_isBack 28 = .ok (.iload 4, 2) := by decide +kernel
theorem dX9_isBack_30 : decode cX9_isBack 30 = .ok (.invokevirtual 107, 3) := by decide +kernel
theorem dX9_isBack_33 : decode cX9_isBack 33 = .ok (.aload_n 0, 1) := by decide +kernel
theorem dX9_isBack_34 : decode cX9_isBack 34 = .ok (.iload_n 2, 1) := by decide +kernel
theorem dX9_isBack_35 : decode cX9_isBack 35 = .ok (.iload_n 3, 1) := by decide +kernel
theorem dX9_isBack_36 : decode cX9_isBack 36 = .ok (.iconst 1, 1) := by decide +kernel
theorem dX9_isBack_37 : decode cX9_isBack 37 = .ok (.isub, 1) := by decide +kernel
theorem dX9_isBack_38 : decode cX9_isBack 38 = .ok (.iload 4, 2) := by decide +kernel
theorem dX9_isBack_40 : decode cX9_isBack 40 = .ok (.isub, 1) := by decide +kernel
theorem dX9_isBack_41 : decode cX9_isBack 41 = .ok (.invokevirtual 107, 3) := by decide +kernel
theorem dX9_isBack_44 : decode cX9_isBack 44 = .ok (.if_icmp .eq 5, 3) := by decide +kernel
theorem dX9_isBack_47 : decode cX9_isBack 47 = .ok (.iconst 0, 1) := by decide +kernel
theorem dX9_isBack_48 : decode cX9_isBack 48 = .ok (.ireturn, 1) := by decide +kernel
theorem dX9_isBack_49 : decode cX9_isBack 49 = .ok (.iinc 4 1, 3) := by decide +kernel
theorem dX9_isBack_52 : decode cX9_isBack 52 = .ok (.goto (-32), 3) := by decide +kernel
theorem dX9_isBack_55 : decode cX9_isBack 55 = .ok (.iconst 1, 1) := by decide +kernel
theorem dX9_isBack_56 : decode cX9_isBack 56 = .ok (.ireturn, 1) := by decide +kernel
theorem dX9_turns_0 : decode cX9_turns 0 = .ok (.aload_n 0, 1) := by decide +kernel
theorem dX9_turns_1 : decode cX9_turns 1 = .ok (.iload_n 1, 1) := by decide +kernel
theorem dX9_turns_2 : decode cX9_turns 2 = .ok (.invokevirtual 93, 3) := by decide +kernel
theorem dX9_turns_5 : decode cX9_turns 5 = .ok (.ifCond .ne 19, 3) := by decide +kernel
theorem dX9_turns_8 : decode cX9_turns 8 = .ok (.aload_n 0, 1) := by decide +kernel
theorem dX9_turns_9 : decode cX9_turns 9 = .ok (.aload_n 0, 1) := by decide +kernel
theorem dX9_turns_10 : decode cX9_turns 10 = .ok (.iload_n 1, 1) := by decide +kernel
theorem dX9_turns_11 : decode cX9_turns 11 = .ok (.iload_n 1, 1) := by decide +kernel
theorem dX9_turns_12 : decode cX9_turns 12 = .ok (.invokevirtual 126, 3) := by decide +kernel
theorem dX9_turns_15 : decode cX9_turns 15 = .ok (.bipush 8, 2) := by decide +kernel
theorem dX9_turns_17 : decode cX9_turns 17 = .ok (.iload_n 1, 1) := by decide +kernel
theorem dX9_turns_18 : decode cX9_turns 18 = .ok (.invokevirtual 65, 3) := by decide +kernel
theorem dX9_turns_21 : decode cX9_turns 21 = .ok (.ifCond .eq 5, 3) := by decide +kernel
theorem dX9_turns_24 : decode cX9_turns 24 = .ok (.iconst 0, 1) := by decide +kernel
theorem dX9_turns_25 : decode cX9_turns 25 = .ok (.ireturn, 1) := by decide +kernel
theorem dX9_turns_26 : decode cX9_turns 26 = .ok (.aload_n 0, 1) := by decide +kernel
theorem dX9_turns_27 : decode cX9_turns 27 = .ok (.iload_n 1, 1) := by decide +kernel
theorem dX9_turns_28 : decode cX9_turns 28 = .ok (.invokevirtual 61, 3) := by decide +kernel
theorem dX9_turns_31 : decode cX9_turns 31 = .ok (.istore_n 2, 1) := by decide +kernel
theorem dX9_turns_32 : decode cX9_turns 32 = .ok (.iconst 0, 1) := by decide +kernel
theorem dX9_turns_33 : decode cX9_turns 33 = .ok (.istore_n 3, 1) := by decide +kernel
theorem dX9_turns_34 : decode cX9_turns 34 = .ok (.iload_n 3, 1) := by decide +kernel
theorem dX9_turns_35 : decode cX9_turns 35 = .ok (.iload_n 2, 1) := by decide +kernel
theorem dX9_turns_36 : decode cX9_turns 36 = .ok (.iconst 1, 1) := by decide +kernel
theorem dX9_turns_37 : decode cX9_turns 37 = .ok (.isub, 1) := by decide +kernel
theorem dX9_turns_38 : decode cX9_turns 38 = .ok (.iload_n 3, 1) := by decide +kernel
theorem dX9_turns_39 : decode cX9_turns 39 = .ok (.isub, 1) := by decide +kernel
theorem dX9_turns_40 : decode cX9_turns 40 = .ok (.if_icmp .ge 45, 3) := by decide +kernel
theorem dX9_turns_43 : decode cX9_turns 43 = .ok (.aload_n 0, 1) := by decide +kernel
theorem dX9_turns_44 : decode cX9_turns 44 = .ok (.iload_n 1, 1) := by decide +kernel
theorem dX9_turns_45 : decode cX9_turns 45 = .ok (.iload_n 3, 1) := by decide +kernel
theorem dX9_turns_46 : decode cX9_turns 46 = .ok (.invokevirtual 107, 3) := by decide +kernel
theorem dX9_turns_49 : decode cX9_turns 49 = .ok (.istore 4, 2) := by decide +kernel
theorem dX9_turns_51 : decode cX9_turns 51 = .ok (.aload_n 0, 1) := by decide +kernel
theorem dX9_turns_52 : decode cX9_turns 52 = .ok (.iload_n 1, 1) := by decide +kernel
theorem dX9_turns_53 : decode cX9_turns 53 = .ok (.iload_n 3, 1) := by decide +kernel
theorem dX9_turns_54 : decode cX9_turns 54 = .ok (.aload_n 0, 1) := by decide +kernel
theorem dX9_turns_55 : decode cX9_turns 55 = .ok (.iload_n 1, 1) := by decide +kernel
theorem dX9_turns_56 : decode cX9_turns 56 = .ok (.iload_n 2, 1) := by decide +kernel
theorem dX9_turns_57 : decode cX9_turns 57 = .ok (.iconst 1, 1) := by decide +kernel
theorem dX9_turns_58 : decode cX9_turns 58 = .ok (.isub, 1) := by decide +kernel
theorem dX9_turns_59 : decode cX9_turns 59 = .ok (.iload_n 3, 1) := by decide +kernel
theorem dX9_turns_60 : decode cX9_turns 60 = .ok (.isub, 1) := by decide +kernel
theorem dX9_turns_61 : decode cX9_turns 61 = .ok (.invokevirtual 107, 3) := by decide +kernel
theorem dX9_turns_64 : decode cX9_turns 64 = .ok (.invokevirtual 75, 3) := by decide +kernel
theorem dX9_turns_67 : decode cX9_turns 67 = .ok (.aload_n 0, 1) := by decide +kernel
theorem dX9_turns_68 : decode cX9_turns 68 = .ok (.iload_n 1, 1) := by decide +kernel
theorem dX9_turns_69 : decode cX9_turns 69 = .ok (.iload_n 2, 1) := by decide +kernel
theorem dX9_turns_70 : decode cX9_turns 70 = .ok (.iconst 1, 1) := by decide +kernel
theorem dX9_turns_71 : decode cX9_turns 71 = .ok (.isub, 1) := by decide +kernel
theorem dX9_turns_72 : decode cX9_turns 72 = .ok (.iload_n 3, 1) := by decide +kernel
theorem dX9_turns_73 : decode cX9_turns 73 = .ok (.isub, 1) := by decide +kernel
theorem dX9_turns_74 : decode cX9_turns 74 = .ok (.iload 4, 2) := by decide +kernel
theorem dX9_turns_76 : decode cX9_turns 76 = .ok (.invokevirtual 75, 3) := by decide +kernel
theorem dX9_turns_79 : decode cX9_turns 79 = .ok (.iinc 3 1, 3) := by decide +kernel
theorem dX9_turns_82 : decode cX9_turns 82 = .ok (.goto (-48), 3) := by decide +kernel
theorem dX9_turns_85 : decode cX9_turns 85 = .ok (.aload_n 0, 1) := by decide +kernel
theorem dX9_turns_86 : decode cX9_turns 86 = .ok (.aload_n 0, 1) := by decide +kernel
theorem dX9_turns_87 : decode cX9_turns 87 = .ok (.iload_n 1, 1) := by decide +kernel
theorem dX9_turns_88 : decode cX9_turns 88 = .ok (.iconst 0, 1) := by decide +kernel
theorem dX9_turns_89 : decode cX9_turns 89 = .ok (.invokevirtual 111, 3) := by decide +kernel
theorem dX9_turns_92 : decode cX9_turns 92 = .ok (.putfield 46, 3) := by decide +kernel
theorem dX9_turns_95 : decode cX9_turns 95 = .ok (.iconst 1, 1) := by decide +kernel
theorem dX9_turns_96 : decode cX9_turns 96 = .ok (.ireturn, 1) := by decide +kernel
theorem dX9_turn_0 : decode cX9_turn 0 = .ok (.aload_n 0, 1) := by decide +kernel
theorem dX9_turn_1 : decode cX9_turn 1 = .ok (.invokevirtual 83, 3) := by decide +kernel
theorem dX9_turn_4 : decode cX9_turn 4 = .ok (.aload_n 0, 1) := by decide +kernel
theorem dX9_turn_5 : decode cX9_turn 5 = .ok (.aload_n 0, 1) := by decide +kernel
theorem dX9_turn_6 : decode cX9_turn 6 = .ok (.iload_n 1, 1) := by decide +kernel
theorem dX9_turn_7 : decode cX9_turn 7 = .ok (.invokevirtual 129, 3) := by decide +kernel
theorem dX9_turn_10 : decode cX9_turn 10 = .ok (.iconst 1, 1) := by decide +kernel
theorem dX9_turn_11 : decode cX9_turn 11 = .ok (.invokevirtual 89, 3) := by decide +kernel
theorem dX9_turn_14 : decode cX9_turn 14 = .ok (.ireturn, 1) := by decide +kernel
theorem dX9_left_0 : decode cX9_left 0 = .ok (.aload_n 0, 1) := by decide +kernel
theorem dX9_left_1 : decode cX9_left 1 = .ok (.iload_n 1, 1) := by decide +kernel
theorem dX9_left_2 : decode cX9_left 2 = .ok (.bipush 10, 2) := by decide +kernel
theorem dX9_left_4 : decode cX9_left 4 = .ok (.idiv, 1) := by decide +kernel
theorem dX9_left_5 : decode cX9_left 5 = .ok (.invokevirtual 61, 3) := by decide +kernel
theorem dX9_left_8 : decode cX9_left 8 = .ok (.iload_n 1, 1) := by decide +kernel
theorem dX9_left_9 : decode cX9_left 9 = .ok (.bipush 10, 2) := by decide +kernel
theorem dX9_left_11 : decode cX9_left 11 = .ok (.irem, 1) := by decide +kernel
theorem dX9_left_12 : decode cX9_left 12 = .ok (.isub, 1) := by decide +kernel
theorem dX9_left_13 : decode cX9_left 13 = .ok (.ireturn, 1) := by decide +kernel
theorem dX9_letterOf_0 : decode cX9_letterOf 0 = .ok (.aload_n 0, 1) := by decide +kernel
theorem dX9_letterOf_1 : decode cX9_letterOf 1 = .ok (.iload_n 1, 1) := by decide +kernel
theorem dX9_letterOf_2 : decode cX9_letterOf 2 = .ok (.bipush 10, 2) := by decide +kernel
theorem dX9_letterOf_4 : decode cX9_letterOf 4 = .ok (.idiv, 1) := by decide +kernel
theorem dX9_letterOf_5 : decode cX9_letterOf 5 = .ok (.iload_n 1, 1) := by decide +kernel
theorem dX9_letterOf_6 : decode cX9_letterOf 6 = .ok (.bipush 10, 2) := by decide +kernel
theorem dX9_letterOf_8 : decode cX9_letterOf 8 = .ok (.irem, 1) := by decide +kernel
theorem dX9_letterOf_9 : decode cX9_letterOf 9 = .ok (.iload_n 2, 1) := by decide +kernel
theorem dX9_letterOf_10 : decode cX9_letterOf 10 = .ok (.iadd, 1) := by decide +kernel
theorem dX9_letterOf_11 : decode cX9_letterOf 11 = .ok (.invokevirtual 107, 3) := by decide +kernel
theorem dX9_letterOf_14 : decode cX9_letterOf 14 = .ok (.ireturn, 1) := by decide +kernel
theorem dX9_front_0 : decode cX9_front 0 = .ok (.iconst 0, 1) := by decide +kernel
theorem dX9_front_1 : decode cX9_front 1 = .ok (.istore_n 3, 1) := by decide +kernel
theorem dX9_front_2 : decode cX9_front 2 = .ok (.iload_n 3, 1) := by decide +kernel
theorem dX9_front_3 : decode cX9_front 3 = .ok (.aload_n 0, 1) := by decide +kernel
theorem dX9_front_4 : decode cX9_front 4 = .ok (.iload_n 1, 1) := by decide +kernel
theorem dX9_front_5 : decode cX9_front 5 = .ok (.invokevirtual 132, 3) := by decide +kernel
theorem dX9_front_8 : decode cX9_front 8 = .ok (.if_icmp .ge 33, 3) := by decide +kernel
theorem dX9_front_11 : decode cX9_front 11 = .ok (.iload_n 3, 1) := by decide +kernel
theorem dX9_front_12 : decode cX9_front 12 = .ok (.aload_n 0, 1) := by decide +kernel
theorem dX9_front_13 : decode cX9_front 13 = .ok (.iload_n 2, 1) := by decide +kernel
theorem dX9_front_14 : decode cX9_front 14 = .ok (.invokevirtual 132, 3) := by decide +kernel
theorem dX9_front_17 : decode cX9_front 17 = .ok (.if_icmp .ge 24, 3) := by decide +kernel
theorem dX9_front_20 : decode cX9_front 20 = .ok (.aload_n 0, 1) := by decide +kernel
theorem dX9_front_21 : decode cX9_front 21 = .ok (.iload_n 1, 1) := by decide +kernel
theorem dX9_front_22 : decode cX9_front 22 = .ok (.iload_n 3, 1) := by decide +kernel
theorem dX9_front_23 : decode cX9_front 23 = .ok (.invokevirtual 135, 3) := by decide +kernel
theorem dX9_front_26 : decode cX9_front 26 = .ok (.aload_n 0, 1) := by decide +kernel
theorem dX9_front_27 : decode cX9_front 27 = .ok (.iload_n 2, 1) := by decide +kernel
theorem dX9_front_28 : decode cX9_front 28 = .ok (.iload_n 3, 1) := by decide +kernel
theorem dX9_front_29 : decode cX9_front 29 = .ok (.invokevirtual 135, 3) := by decide +kernel
theorem dX9_front_32 : decode cX9_front 32 = .ok (.if_icmp .ne 9, 3) := by decide +kernel
theorem dX9_front_35 : decode cX9_front 35 = .ok (.iinc 3 1, 3) := by decide +kernel
theorem dX9_front_38 : decode cX9_front 38 = .ok (.goto (-36), 3) := by decide +kernel
theorem dX9_front_41 : decode cX9_front 41 = .ok (.iload_n 3, 1) := by decide +kernel
theorem dX9_front_42 : decode cX9_front 42 = .ok (.ireturn, 1) := by decide +kernel
theorem dX9_isAhead_0 : decode cX9_isAhead 0 = .ok (.aload_n 0, 1) := by decide +kernel
theorem dX9_isAhead_1 : decode cX9_isAhead 1 = .ok (.iload_n 1, 1) := by decide +kernel
theorem dX9_isAhead_2 : decode cX9_isAhead 2 = .ok (.iload_n 2, 1) := by decide +kernel
theorem dX9_isAhead_3 : decode cX9_isAhead 3 = .ok (.invokevirtual 138, 3) := by decide +kernel
theorem dX9_isAhead_6 : decode cX9_isAhead 6 = .ok (.istore_n 3, 1) := by decide +kernel
theorem dX9_isAhead_7 : decode cX9_isAhead 7 = .ok (.iload_n 3, 1) := by decide +kernel
theorem dX9_isAhead_8 : decode cX9_isAhead 8 = .ok (.aload_n 0, 1) := by decide +kernel
theorem dX9_isAhead_9 : decode cX9_isAhead 9 = .ok (.iload_n 1, 1) := by decide +kernel
theorem dX9_isAhead_10 : decode cX9_isAhead 10 = .ok (.invokevirtual 132, 3) := by decide +kernel
theorem dX9_isAhead_13 : decode cX9_isAhead 13 = .ok (.if_icmp .ge 33, 3) := by decide +kernel
theorem dX9_isAhead_16 : decode cX9_isAhead 16 = .ok (.iload_n 3, 1) := by decide +kernel
theorem dX9_isAhead_17 : decode cX9_isAhead 17 = .ok (.aload_n 0, 1) := by decide +kernel
theorem dX9_isAhead_18 : decode cX9_isAhead 18 = .ok (.iload_n 2, 1) := by decide +kernel
theorem dX9_isAhead_19 : decode cX9_isAhead 19 = .ok (.invokevirtual 132, 3) := by decide +kernel
theorem dX9_isAhead_22 : decode cX9_isAhead 22 = .ok (.if_icmp .ge 24, 3) := by decide +kernel
theorem dX9_isAhead_25 : decode cX9_isAhead 25 = .ok (.aload_n 0, 1) := by decide +kernel
theorem dX9_isAhead_26 : decode cX9_isAhead 26 = .ok (.iload_n 1, 1) := by decide +kernel
theorem dX9_isAhead_27 : decode cX9_isAhead 27 = .ok (.iload_n 3, 1) := by decide +kernel
theorem dX9_isAhead_28 : decode cX9_isAhead 28 = .ok (.invokevirtual 135, 3) := by decide +kernel
theorem dX9_isAhead_31 : decode cX9_isAhead 31 = .ok (.aload_n 0, 1) := by decide +kernel
theorem dX9_isAhead_32 : decode cX9_isAhead 32 = .ok (.iload_n 2, 1) := by decide +kernel
theorem dX9_isAhead_33 : decode cX9_isAhead 33 = .ok (.iload_n 3, 1) := by decide +kernel
theorem dX9_isAhead_34 : decode cX9_isAhead 34 = .ok (.invokevirtual 135, 3) := by decide +kernel
theorem dX9_isAhead_37 : decode cX9_isAhead 37 = .ok (.if_icmp .ge 7, 3) := by decide +kernel
theorem dX9_isAhead_40 : decode cX9_isAhead 40 = .ok (.iconst 1, 1) := by decide +kernel
theorem dX9_isAhead_41 : decode cX9_isAhead 41 = .ok (.goto 4, 3) := by decide +kernel
theorem dX9_isAhead_44 : decode cX9_isAhead 44 = .ok (.iconst 0, 1) := by decide +kernel
theorem dX9_isAhead_45 : decode cX9_isAhead 45 = .ok (.ireturn, 1) := by decide +kernel
theorem dX9_isAhead_46 : decode cX9_isAhead 46 = .ok (.aload_n 0, 1) := by decide +kernel
theorem dX9_isAhead_47 : decode cX9_isAhead 47 = .ok (.iload_n 1, 1) := by decide +kernel
theorem dX9_isAhead_48 : decode cX9_isAhead 48 = .ok (.invokevirtual 132, 3) := by decide +kernel
theorem dX9_isAhead_51 : decode cX9_isAhead 51 = .ok (.aload_n 0, 1) := by decide +kernel
theorem dX9_isAhead_52 : decode cX9_isAhead 52 = .ok (.iload_n 2, 1) := by decide +kernel
theorem dX9_isAhead_53 : decode cX9_isAhead 53 = .ok (.invokevirtual 132, 3) := by decide +kernel
theorem dX9_isAhead_56 : decode cX9_isAhead 56 = .ok (.if_icmp .lt 21, 3) := by decide +kernel
theorem dX9_isAhead_59 : decode cX9_isAhead 59 = .ok (.aload_n 0, 1) := by decide +kernel
theorem dX9_isAhead_60 : decode cX9_isAhead 60 = .ok (.iload_n 1, 1) := by decide +kernel
theorem dX9_isAhead_61 : decode cX9_isAhead 61 = .ok (.invokevirtual 132, 3) := by decide +kernel
theorem dX9_isAhead_64 : decode cX9_isAhead 64 = .ok (.aload_n 0, 1) := by decide +kernel
theorem dX9_isAhead_65 : decode cX9_isAhead 65 = .ok (.iload_n 2, 1) := by decide +kernel
theorem dX9_isAhead_66 : decode cX9_isAhead 66 = .ok (.invokevirtual 132, 3) := by decide +kernel
theorem dX9_isAhead_69 : decode cX9_isAhead 69 = .ok (.if_icmp .ne 12, 3) := by decide +kernel
theorem dX9_isAhead_72 : decode cX9_isAhead 72 = .ok (.iload_n 1, 1) := by decide +kernel
theorem dX9_isAhead_73 : decode cX9_isAhead 73 = .ok (.iload_n 2, 1) := by decide +kernel
theorem dX9_isAhead_74 : decode cX9_isAhead 74 = .ok (.if_icmp .ge 7, 3) := by decide +kernel
theorem dX9_isAhead_77 : decode cX9_isAhead 77 = .ok (.iconst 1, 1) := by decide +kernel
theorem dX9_isAhead_78 : decode cX9_isAhead 78 = .ok (.goto 4, 3) := by decide +kernel
theorem dX9_isAhead_81 : decode cX9_isAhead 81 = .ok (.iconst 0, 1) := by decide +kernel
theorem dX9_isAhead_82 : decode cX9_isAhead 82 = .ok (.ireturn, 1) := by decide +kernel
theorem dX9_orders_0 : decode cX9_orders 0 = .ok (.aload_n 0, 1) := by decide +kernel
theorem dX9_orders_1 : decode cX9_orders 1 = .ok (.iconst 0, 1) := by decide +kernel
theorem dX9_orders_2 : decode cX9_orders 2 = .ok (.putfield 141, 3) := by decide +kernel
theorem dX9_orders_5 : decode cX9_orders 5 = .ok (.iconst 0, 1) := by decide +kernel
theorem dX9_orders_6 : decode cX9_orders 6 = .ok (.istore_n 1, 1) := by decide +kernel
theorem dX9_orders_7 : decode cX9_orders 7 = .ok (.iload_n 1, 1) := by decide +kernel
theorem dX9_orders_8 : decode cX9_orders 8 = .ok (.aload_n 0, 1) := by decide +kernel
theorem dX9_orders_9 : decode cX9_orders 9 = .ok (.invokevirtual 53, 3) := by decide +kernel
theorem dX9_orders_12 : decode cX9_orders 12 = .ok (.if_icmp .ge 101, 3) := by decide +kernel
theorem dX9_orders_15 : decode cX9_orders 15 = .ok (.iconst 0, 1) := by decide +kernel
theorem dX9_orders_16 : decode cX9_orders 16 = .ok (.istore_n 2, 1) := by decide +kernel
theorem dX9_orders_17 : decode cX9_orders 17 = .ok (.iload_n 2, 1) := by decide +kernel
theorem dX9_orders_18 : decode cX9_orders 18 = .ok (.aload_n 0, 1) := by decide +kernel
theorem dX9_orders_19 : decode cX9_orders 19 = .ok (.iload_n 1, 1) := by decide +kernel
theorem dX9_orders_20 : decode cX9_orders 20 = .ok (.invokevirtual 61, 3) := by decide +kernel
theorem dX9_orders_23 : decode cX9_orders 23 = .ok (.if_icmp .ge 84, 3) := by decide +kernel
theorem dX9_orders_26 : decode cX9_orders 26 = .ok (.bipush 10, 2) := by decide +kernel
theorem dX9_orders_28 : decode cX9_orders 28 = .ok (.iload_n 1, 1) := by decide +kernel
theorem dX9_orders_29 : decode cX9_orders 29 = .ok (.imul, 1) := by decide +kernel
theorem dX9_orders_30 : decode cX9_orders 30 = .ok (.iload_n 2, 1) := by decide +kernel
theorem dX9_orders_31 : decode cX9_orders 31 = .ok (.iadd, 1) := by decide +kernel
theorem dX9_orders_32 : decode cX9_orders 32 = .ok (.istore_n 3, 1) := by decide +kernel
theorem dX9_orders_33 : decode cX9_orders 33 = .ok (.aload_n 0, 1) := by decide +kernel
theorem dX9_orders_34 : decode cX9_orders 34 = .ok (.getfield 141, 3) := by decide +kernel
theorem dX9_orders_37 : decode cX9_orders 37 = .ok (.istore 4, 2) := by decide +kernel
theorem dX9_orders_39 : decode cX9_orders 39 = .ok (.iload 4, 2) := by decide +kernel
theorem dX9_orders_41 : decode cX9_orders 41 = .ok (.ifCond .le 42, 3) := by decide +kernel
theorem dX9_orders_44 : decode cX9_orders 44 = .ok (.aload_n 0, 1) := by decide +kernel
theorem dX9_orders_45 : decode cX9_orders 45 = .ok (.iload_n 3, 1) := by decide +kernel
theorem dX9_orders_46 : decode cX9_orders 46 = .ok (.aload_n 0, 1) := by decide +kernel
theorem dX9_orders_47 : decode cX9_orders 47 = .ok (.getfield 23, 3) := by decide +kernel
theorem dX9_orders_50 : decode cX9_orders 50 = .ok (.iload 4, 2) := by decide +kernel
theorem dX9_orders_52 : decode cX9_orders 52 = .ok (.iconst 1, 1) := by decide +kernel
theorem dX9_orders_53 : decode cX9_orders 53 = .ok (.isub, 1) := by decide +kernel
theorem dX9_orders_54 : decode cX9_orders 54 = .ok (.iaload, 1) := by decide +kernel
theorem dX9_orders_55 : decode cX9_orders 55 = .ok (.invokevirtual 144, 3) := by decide +kernel
theorem dX9_orders_58 : decode cX9_orders 58 = .ok (.ifCond .eq 25, 3) := by decide +kernel
theorem dX9_orders_61 : decode cX9_orders 61 = .ok (.aload_n 0, 1) := by decide +kernel
theorem dX9_orders_62 : decode cX9_orders 62 = .ok (.getfield 23, 3) := by decide +kernel
theorem dX9_orders_65 : decode cX9_orders 65 = .ok (.iload 4, 2) := by decide +kernel
theorem dX9_orders_67 : decode cX9_orders 67 = .ok (.aload_n 0, 1) := by decide +kernel
theorem dX9_orders_68 : decode cX9_orders 68 = .ok (.getfield 23, 3) := by decide +kernel
theorem dX9_orders_71 : decode cX9_orders 71 = .ok (.iload 4, 2) := by decide +kernel
theorem dX9_orders_73 : decode cX9_orders 73 = .ok (.iconst 1, 1) := by decide +kernel
theorem dX9_orders_74 : decode cX9_orders 74 = .ok (.isub, 1) := by decide +kernel
theorem dX9_orders_75 : decode cX9_orders 75 = .ok (.iaload, 1) := by decide +kernel
theorem dX9_orders_76 : decode cX9_orders 76 = .ok (.iastore, 1) := by decide +kernel
theorem dX9_orders_77 : decode cX9_orders 77 = .ok (.iinc 4 (-1), 3) := by decide +kernel
theorem dX9_orders_80 : decode cX9_orders 80 = .ok (.goto (-41), 3) := by decide +kernel
theorem dX9_orders_83 : decode cX9_orders 83 = .ok (.aload_n 0, 1) := by decide +kernel
theorem dX9_orders_84 : decode cX9_orders 84 = .ok (.getfield 23, 3) := by decide +kernel
theorem dX9_orders_87 : decode cX9_orders 87 = .ok (.iload 4, 2) := by decide +kernel
theorem dX9_orders_89 : decode cX9_orders 89 = .ok (.iload_n 3, 1) := by decide +kernel
theorem dX9_orders_90 : decode cX9_orders 90 = .ok (.iastore, 1) := by decide +kernel
theorem dX9_orders_91 : decode cX9_orders 91 = .ok (.aload_n 0, 1) := by decide +kernel
theorem dX9_orders_92 : decode cX9_orders 92 = .ok (.dup, 1) := by decide +kernel
theorem dX9_orders_93 : decode cX9_orders 93 = .ok (.getfield 141, 3) := by decide +kernel
theorem dX9_orders_96 : decode cX9_orders 96 = .ok (.iconst 1, 1) := by decide +kernel
theorem dX9_orders_97 : decode cX9_orders 97 = .ok (.iadd, 1) := by decide +kernel
theorem dX9_orders_98 : decode cX9_orders 98 = .ok (.putfield 141, 3) := by decide +kernel
theorem dX9_orders_101 : decode cX9_orders 101 = .ok (.iinc 2 1, 3) := by decide +kernel
theorem dX9_orders_104 : decode cX9_orders 104 = .ok (.goto (-87), 3) := by decide +kernel
theorem dX9_orders_107 : decode cX9_orders 107 = .ok (.iinc 1 1, 3) := by decide +kernel
theorem dX9_orders_110 : decode cX9_orders 110 = .ok (.goto (-103), 3) := by decide +kernel
theorem dX9_orders_113 : decode cX9_orders 113 = .ok (.return_, 1) := by decide +kernel
theorem dX9_rankOf_0 : decode cX9_rankOf 0 = .ok (.aload_n 0, 1) := by decide +kernel
theorem dX9_rankOf_1 : decode cX9_rankOf 1 = .ok (.invokevirtual 147, 3) := by decide +kernel
theorem dX9_rankOf_4 : decode cX9_rankOf 4 = .ok (.iconst 0, 1) := by decide +kernel
theorem dX9_rankOf_5 : decode cX9_rankOf 5 = .ok (.istore_n 3, 1) := by decide +kernel
theorem dX9_rankOf_6 : decode cX9_rankOf 6 = .ok (.aload_n 0, 1) := by decide +kernel
theorem dX9_rankOf_7 : decode cX9_rankOf 7 = .ok (.getfield 23, 3) := by decide +kernel
theorem dX9_rankOf_10 : decode cX9_rankOf 10 = .ok (.iload_n 3, 1) := by decide +kernel
theorem dX9_rankOf_11 : decode cX9_rankOf 11 = .ok (.iaload, 1) := by decide +kernel
theorem dX9_rankOf_12 : decode cX9_rankOf 12 = .ok (.bipush 10, 2) := by decide +kernel
theorem dX9_rankOf_14 : decode cX9_rankOf 14 = .ok (.iload_n 1, 1) := by decide +kernel
theorem dX9_rankOf_15 : decode cX9_rankOf 15 = .ok (.imul, 1) := by decide +kernel
theorem dX9_rankOf_16 : decode cX9_rankOf 16 = .ok (.iload_n 2, 1) := by decide +kernel
theorem dX9_rankOf_17 : decode cX9_rankOf 17 = .ok (.iadd, 1) := by decide +kernel
theorem dX9_rankOf_18 : decode cX9_rankOf 18 = .ok (.if_icmp .eq 9, 3) := by decide +kernel
theorem dX9_rankOf_21 : decode cX9_rankOf 21 = .ok (.iinc 3 1, 3) := by decide +kernel
theorem dX9_rankOf_24 : decode cX9_rankOf 24 = .ok (.goto (-18), 3) := by decide +kernel
theorem dX9_rankOf_27 : decode cX9_rankOf 27 = .ok (.iload_n 3, 1) := by decide +kernel
theorem dX9_rankOf_28 : decode cX9_rankOf 28 = .ok (.ireturn, 1) := by decide +kernel
theorem dX9_common1_0 : decode cX9_common1 0 = .ok (.aload_n 0, 1) := by decide +kernel
theorem dX9_common1_1 : decode cX9_common1 1 = .ok (.aload_n 0, 1) := by decide +kernel
theorem dX9_common1_2 : decode cX9_common1 2 = .ok (.getfield 23, 3) := by decide +kernel
theorem dX9_common1_5 : decode cX9_common1 5 = .ok (.iload_n 1, 1) := by decide +kernel
theorem dX9_common1_6 : decode cX9_common1 6 = .ok (.iconst 1, 1) := by decide +kernel
theorem dX9_common1_7 : decode cX9_common1 7 = .ok (.isub, 1) := by decide +kernel
theorem dX9_common1_8 : decode cX9_common1 8 = .ok (.iaload, 1) := by decide +kernel
theorem dX9_common1_9 : decode cX9_common1 9 = .ok (.aload_n 0, 1) := by decide +kernel
theorem dX9_common1_10 : decode cX9_common1 10 = .ok (.getfield 23, 3) := by decide +kernel
theorem dX9_common1_13 : decode cX9_common1 13 = .ok (.iload_n 1, 1) := by decide +kernel
theorem dX9_common1_14 : decode cX9_common1 14 = .ok (.iaload, 1) := by decide +kernel
theorem dX9_common1_15 : decode cX9_common1 15 = .ok (.invokevirtual 138, 3) := by decide +kernel
theorem dX9_common1_18 : decode cX9_common1 18 = .ok (.ireturn, 1) := by decide +kernel
theorem dX9_period_0 : decode cX9_period 0 = .ok (.aload_n 0, 1) := by decide +kernel
theorem dX9_period_1 : decode cX9_period 1 = .ok (.iload_n 1, 1) := by decide +kernel
theorem dX9_period_2 : decode cX9_period 2 = .ok (.invokevirtual 61, 3) := by decide +kernel
theorem dX9_period_5 : decode cX9_period 5 = .ok (.istore_n 2, 1) := by decide +kernel
theorem dX9_period_6 : decode cX9_period 6 = .ok (.iconst 1, 1) := by decide +kernel
theorem dX9_period_7 : decode cX9_period 7 = .ok (.istore_n 3, 1) := by decide +kernel
theorem dX9_period_8 : decode cX9_period 8 = .ok (.iload_n 3, 1) := by decide +kernel
theorem dX9_period_9 : decode cX9_period 9 = .ok (.iload_n 2, 1) := by decide +kernel
theorem dX9_period_10 : decode cX9_period 10 = .ok (.if_icmp .ge 51, 3) := by decide +kernel
theorem dX9_period_13 : decode cX9_period 13 = .ok (.iload_n 3, 1) := by decide +kernel
theorem dX9_period_14 : decode cX9_period 14 = .ok (.istore 4, 2) := by decide +kernel
theorem dX9_period_16 : decode cX9_period 16 = .ok (.iload 4, 2) := by decide +kernel
theorem dX9_period_18 : decode cX9_period 18 = .ok (.iload_n 2, 1) := by decide +kernel
theorem dX9_period_19 : decode cX9_period 19 = .ok (.if_icmp .ge 28, 3) := by decide +kernel
theorem dX9_period_22 : decode cX9_period 22 = .ok (.aload_n 0, 1) := by decide +kernel
theorem dX9_period_23 : decode cX9_period 23 = .ok (.iload_n 1, 1) := by decide +kernel
theorem dX9_period_24 : decode cX9_period 24 = .ok (.iload 4, 2) := by decide +kernel
theorem dX9_period_26 : decode cX9_period 26 = .ok (.invokevirtual 107, 3) := by decide +kernel
theorem dX9_period_29 : decode cX9_period 29 = .ok (.aload_n 0, 1) := by decide +kernel
theorem dX9_period_30 : decode cX9_period 30 = .ok (.iload_n 1, 1) := by decide +kernel
theorem dX9_period_31 : decode cX9_period 31 = .ok (.iload 4, 2) := by decide +kernel
theorem dX9_period_33 : decode cX9_period 33 = .ok (.iload_n 3, 1) := by decide +kernel
theorem dX9_period_34 : decode cX9_period 34 = .ok (.isub, 1) := by decide +kernel
theorem dX9_period_35 : decode cX9_period 35 = .ok (.invokevirtual 107, 3) := by decide +kernel
theorem dX9_period_38 : decode cX9_period 38 = .ok (.if_icmp .ne 9, 3) := by decide +kernel
theorem dX9_period_41 : decode cX9_period 41 = .ok (.iinc 4 1, 3) := by decide +kernel
theorem dX9_period_44 : decode cX9_period 44 = .ok (.goto (-28), 3) := by decide +kernel
theorem dX9_period_47 : decode cX9_period 47 = .ok (.iload 4, 2) := by decide +kernel
theorem dX9_period_49 : decode cX9_period 49 = .ok (.iload_n 2, 1) := by decide +kernel
theorem dX9_period_50 : decode cX9_period 50 = .ok (.if_icmp .ne 5, 3) := by decide +kernel
theorem dX9_period_53 : decode cX9_period 53 = .ok (.iload_n 3, 1) := by decide +kernel
theorem dX9_period_54 : decode cX9_period 54 = .ok (.ireturn, 1) := by decide +kernel
theorem dX9_period_55 : decode cX9_period 55 = .ok (.iinc 3 1, 3) := by decide +kernel
theorem dX9_period_58 : decode cX9_period 58 = .ok (.goto (-50), 3) := by decide +kernel
theorem dX9_period_61 : decode cX9_period 61 = .ok (.iload_n 2, 1) := by decide +kernel
theorem dX9_period_62 : decode cX9_period 62 = .ok (.ireturn, 1) := by decide +kernel
theorem dX9_different_0 : decode cX9_different 0 = .ok (.iconst 0, 1) := by decide +kernel
theorem dX9_different_1 : decode cX9_different 1 = .ok (.istore_n 3, 1) := by decide +kernel
theorem dX9_different_2 : decode cX9_different 2 = .ok (.bipush 97, 2) := by decide +kernel
theorem dX9_different_4 : decode cX9_different 4 = .ok (.istore 4, 2) := by decide +kernel
theorem dX9_different_6 : decode cX9_different 6 = .ok (.iload 4, 2) := by decide +kernel
theorem dX9_different_8 : decode cX9_different 8 = .ok (.bipush 122, 2) := by decide +kernel
theorem dX9_different_10 : decode cX9_different 10 = .ok (.if_icmp .gt 83, 3) := by decide +kernel
theorem dX9_different_13 : decode cX9_different 13 = .ok (.iconst 0, 1) := by decide +kernel
theorem dX9_different_14 : decode cX9_different 14 = .ok (.istore 5, 2) := by decide +kernel
theorem dX9_different_16 : decode cX9_different 16 = .ok (.iload_n 1, 1) := by decide +kernel
theorem dX9_different_17 : decode cX9_different 17 = .ok (.istore 6, 2) := by decide +kernel
theorem dX9_different_19 : decode cX9_different 19 = .ok (.iload 6, 2) := by decide +kernel
theorem dX9_different_21 : decode cX9_different 21 = .ok (.iload_n 2, 1) := by decide +kernel
theorem dX9_different_22 : decode cX9_different 22 = .ok (.if_icmp .ge 52, 3) := by decide +kernel
theorem dX9_different_25 : decode cX9_different 25 = .ok (.iconst 0, 1) := by decide +kernel
theorem dX9_different_26 : decode cX9_different 26 = .ok (.istore 7, 2) := by decide +kernel
theorem dX9_different_28 : decode cX9_different 28 = .ok (.iload 7, 2) := by decide +kernel
theorem dX9_different_30 : decode cX9_different 30 = .ok (.aload_n 0, 1) := by decide +kernel
theorem dX9_different_31 : decode cX9_different 31 = .ok (.iload 6, 2) := by decide +kernel
theorem dX9_different_33 : decode cX9_different 33 = .ok (.invokevirtual 61, 3) := by decide +kernel
theorem dX9_different_36 : decode cX9_different 36 = .ok (.if_icmp .ge 32, 3) := by decide +kernel
theorem dX9_different_39 : decode cX9_different 39 = .ok (.iload 5, 2) := by decide +kernel
theorem dX9_different_41 : decode cX9_different 41 = .ok (.aload_n 0, 1) := by decide +kernel
theorem dX9_different_42 : decode cX9_different 42 = .ok (.iload 6, 2) := by decide +kernel
theorem dX9_different_44 : decode cX9_different 44 = .ok (.iload 7, 2) := by decide +kernel
theorem dX9_different_46 : decode cX9_different 46 = .ok (.invokevirtual 107, 3) := by decide +kernel
theorem dX9_different_49 : decode cX9_different 49 = .ok (.iload 4, 2) := by decide +kernel
theorem dX9_different_51 : decode cX9_different 51 = .ok (.if_icmp .ne 7, 3) := by decide +kernel
theorem dX9_different_54 : decode cX9_different 54 = .ok (.iconst 1, 1) := by decide +kernel
theorem dX9_different_55 : decode cX9_different 55 = .ok (.goto 4, 3) := by decide +kernel
theorem dX9_different_58 : decode cX9_different 58 = .ok (.iconst 0, 1) := by decide +kernel
theorem dX9_different_59 : decode cX9_different 59 = .ok (.ior, 1) := by decide +kernel
theorem dX9_different_60 : decode cX9_different 60 = .ok (.istore 5, 2) := by decide +kernel
theorem dX9_different_62 : decode cX9_different 62 = .ok (.iinc 7 1, 3) := by decide +kernel
theorem dX9_different_65 : decode cX9_different 65 = .ok (.goto (-37), 3) := by decide +kernel
theorem dX9_different_68 : decode cX9_different 68 = .ok (.iinc 6 1, 3) := by decide +kernel
theorem dX9_different_71 : decode cX9_different 71 = .ok (.goto (-52), 3) := by decide +kernel
theorem dX9_different_74 : decode cX9_different 74 = .ok (.iload_n 3, 1) := by decide +kernel
theorem dX9_different_75 : decode cX9_different 75 = .ok (.iload 5, 2) := by decide +kernel
theorem dX9_different_77 : decode cX9_different 77 = .ok (.ifCond .eq 7, 3) := by decide +kernel
theorem dX9_different_80 : decode cX9_different 80 = .ok (.iconst 1, 1) := by decide +kernel
theorem dX9_different_81 : decode cX9_different 81 = .ok (.goto 4, 3) := by decide +kernel
theorem dX9_different_84 : decode cX9_different 84 = .ok (.iconst 0, 1) := by decide +kernel
theorem dX9_different_85 : decode cX9_different 85 = .ok (.iadd, 1) := by decide +kernel
theorem dX9_different_86 : decode cX9_different 86 = .ok (.istore_n 3, 1) := by decide +kernel
theorem dX9_different_87 : decode cX9_different 87 = .ok (.iinc 4 1, 3) := by decide +kernel
theorem dX9_different_90 : decode cX9_different 90 = .ok (.goto (-84), 3) := by decide +kernel
theorem dX9_different_93 : decode cX9_different 93 = .ok (.iload_n 3, 1) := by decide +kernel
theorem dX9_different_94 : decode cX9_different 94 = .ok (.ireturn, 1) := by decide +kernel
theorem dX9_areAlike_0 : decode cX9_areAlike 0 = .ok (.aload_n 0, 1) := by decide +kernel
theorem dX9_areAlike_1 : decode cX9_areAlike 1 = .ok (.iload_n 1, 1) := by decide +kernel
theorem dX9_areAlike_2 : decode cX9_areAlike 2 = .ok (.invokevirtual 61, 3) := by decide +kernel
theorem dX9_areAlike_5 : decode cX9_areAlike 5 = .ok (.aload_n 0, 1) := by decide +kernel
theorem dX9_areAlike_6 : decode cX9_areAlike 6 = .ok (.iload_n 2, 1) := by decide +kernel
theorem dX9_areAlike_7 : decode cX9_areAlike 7 = .ok (.invokevirtual 61, 3) := by decide +kernel
theorem dX9_areAlike_10 : decode cX9_areAlike 10 = .ok (.if_icmp .ne 27, 3) := by decide +kernel
theorem dX9_areAlike_13 : decode cX9_areAlike 13 = .ok (.aload_n 0, 1) := by decide +kernel
theorem dX9_areAlike_14 : decode cX9_areAlike 14 = .ok (.bipush 10, 2) := by decide +kernel
theorem dX9_areAlike_16 : decode cX9_areAlike 16 = .ok (.iload_n 1, 1) := by decide +kernel
theorem dX9_areAlike_17 : decode cX9_areAlike 17 = .ok (.imul, 1) := by decide +kernel
theorem dX9_areAlike_18 : decode cX9_areAlike 18 = .ok (.bipush 10, 2) := by decide +kernel
theorem dX9_areAlike_20 : decode cX9_areAlike 20 = .ok (.iload_n 2, 1) := by decide +kernel
theorem dX9_areAlike_21 : decode cX9_areAlike 21 = .ok (.imul, 1) := by decide +kernel
theorem dX9_areAlike_22 : decode cX9_areAlike 22 = .ok (.invokevirtual 138, 3) := by decide +kernel
theorem dX9_areAlike_25 : decode cX9_areAlike 25 = .ok (.aload_n 0, 1) := by decide +kernel
theorem dX9_areAlike_26 : decode cX9_areAlike 26 = .ok (.iload_n 1, 1) := by decide +kernel
theorem dX9_areAlike_27 : decode cX9_areAlike 27 = .ok (.invokevirtual 61, 3) := by decide +kernel
theorem dX9_areAlike_30 : decode cX9_areAlike 30 = .ok (.if_icmp .ne 7, 3) := by decide +kernel
theorem dX9_areAlike_33 : decode cX9_areAlike 33 = .ok (.iconst 1, 1) := by decide +kernel
theorem dX9_areAlike_34 : decode cX9_areAlike 34 = .ok (.goto 4, 3) := by decide +kernel
theorem dX9_areAlike_37 : decode cX9_areAlike 37 = .ok (.iconst 0, 1) := by decide +kernel
theorem dX9_areAlike_38 : decode cX9_areAlike 38 = .ok (.ireturn, 1) := by decide +kernel
theorem dX9_likes_0 : decode cX9_likes 0 = .ok (.iconst 0, 1) := by decide +kernel
theorem dX9_likes_1 : decode cX9_likes 1 = .ok (.istore_n 2, 1) := by decide +kernel
theorem dX9_likes_2 : decode cX9_likes 2 = .ok (.iconst 0, 1) := by decide +kernel
theorem dX9_likes_3 : decode cX9_likes 3 = .ok (.istore_n 3, 1) := by decide +kernel
theorem dX9_likes_4 : decode cX9_likes 4 = .ok (.iload_n 3, 1) := by decide +kernel
theorem dX9_likes_5 : decode cX9_likes 5 = .ok (.aload_n 0, 1) := by decide +kernel
theorem dX9_likes_6 : decode cX9_likes 6 = .ok (.invokevirtual 53, 3) := by decide +kernel
theorem dX9_likes_9 : decode cX9_likes 9 = .ok (.if_icmp .ge 26, 3) := by decide +kernel
theorem dX9_likes_12 : decode cX9_likes 12 = .ok (.iload_n 2, 1) := by decide +kernel
theorem dX9_likes_13 : decode cX9_likes 13 = .ok (.aload_n 0, 1) := by decide +kernel
theorem dX9_likes_14 : decode cX9_likes 14 = .ok (.iload_n 1, 1) := by decide +kernel
theorem dX9_likes_15 : decode cX9_likes 15 = .ok (.iload_n 3, 1) := by decide +kernel
theorem dX9_likes_16 : decode cX9_likes 16 = .ok (.invokevirtual 150, 3) := by decide +kernel
theorem dX9_likes_19 : decode cX9_likes 19 = .ok (.ifCond .eq 7, 3) := by decide +kernel
theorem dX9_likes_22 : decode cX9_likes 22 = .ok (.iconst 1, 1) := by decide +kernel
theorem dX9_likes_23 : decode cX9_likes 23 = .ok (.goto 4, 3) := by decide +kernel
theorem dX9_likes_26 : decode cX9_likes 26 = .ok (.iconst 0, 1) := by decide +kernel
theorem dX9_likes_27 : decode cX9_likes 27 = .ok (.iadd, 1) := by decide +kernel
theorem dX9_likes_28 : decode cX9_likes 28 = .ok (.istore_n 2, 1) := by decide +kernel
theorem dX9_likes_29 : decode cX9_likes 29 = .ok (.iinc 3 1, 3) := by decide +kernel
theorem dX9_likes_32 : decode cX9_likes 32 = .ok (.goto (-28), 3) := by decide +kernel
theorem dX9_likes_35 : decode cX9_likes 35 = .ok (.iload_n 2, 1) := by decide +kernel
theorem dX9_likes_36 : decode cX9_likes 36 = .ok (.ireturn, 1) := by decide +kernel
theorem dX9_longestOf_0 : decode cX9_longestOf 0 = .ok (.iconst 0, 1) := by decide +kernel
theorem dX9_longestOf_1 : decode cX9_longestOf 1 = .ok (.istore_n 3, 1) := by decide +kernel
theorem dX9_longestOf_2 : decode cX9_longestOf 2 = .ok (.iconst 0, 1) := by decide +kernel
theorem dX9_longestOf_3 : decode cX9_longestOf 3 = .ok (.istore 4, 2) := by decide +kernel
theorem dX9_longestOf_5 : decode cX9_longestOf 5 = .ok (.iload 4, 2) := by decide +kernel
theorem dX9_longestOf_7 : decode cX9_longestOf 7 = .ok (.aload_n 0, 1) := by decide +kernel
theorem dX9_longestOf_8 : decode cX9_longestOf 8 = .ok (.iload_n 1, 1) := by decide +kernel
theorem dX9_longestOf_9 : decode cX9_longestOf 9 = .ok (.invokevirtual 61, 3) := by decide +kernel
theorem dX9_longestOf_12 : decode cX9_longestOf 12 = .ok (.if_icmp .ge 77, 3) := by decide +kernel
theorem dX9_longestOf_15 : decode cX9_longestOf 15 = .ok (.iconst 0, 1) := by decide +kernel
theorem dX9_longestOf_16 : decode cX9_longestOf 16 = .ok (.istore 5, 2) := by decide +kernel
theorem dX9_longestOf_18 : decode cX9_longestOf 18 = .ok (.iload 5, 2) := by decide +kernel
theorem dX9_longestOf_20 : decode cX9_longestOf 20 = .ok (.aload_n 0, 1) := by decide +kernel
theorem dX9_longestOf_21 : decode cX9_longestOf 21 = .ok (.iload_n 2, 1) := by decide +kernel
theorem dX9_longestOf_22 : decode cX9_longestOf 22 = .ok (.invokevirtual 61, 3) := by decide +kernel
theorem dX9_longestOf_25 : decode cX9_longestOf 25 = .ok (.if_icmp .ge 58, 3) := by decide +kernel
theorem dX9_longestOf_28 : decode cX9_longestOf 28 = .ok (.iload_n 1, 1) := by decide +kernel
theorem dX9_longestOf_29 : decode cX9_longestOf 29 = .ok (.iload_n 2, 1) := by decide +kernel
theorem dX9_longestOf_30 : decode cX9_longestOf 30 = .ok (.if_icmp .ne 14, 3) := by decide +kernel
theorem dX9_longestOf_33 : decode cX9_longestOf 33 = .ok (.iload 4, 2) := by decide +kernel
theorem dX9_longestOf_35 : decode cX9_longestOf 35 = .ok (.iload 5, 2) := by decide +kernel
theorem dX9_longestOf_37 : decode cX9_longestOf 37 = .ok (.if_icmp .ne 7, 3) := by decide +kernel
theorem dX9_longestOf_40 : decode cX9_longestOf 40 = .ok (.iconst 0, 1) := by decide +kernel
theorem dX9_longestOf_41 : decode cX9_longestOf 41 = .ok (.goto 21, 3) := by decide +kernel
theorem dX9_longestOf_44 : decode cX9_longestOf 44 = .ok (.aload_n 0, 1) := by decide +kernel
theorem dX9_longestOf_45 : decode cX9_longestOf 45 = .ok (.bipush 10, 2) := by decide +kernel
theorem dX9_longestOf_47 : decode cX9_longestOf 47 = .ok (.iload_n 1, 1) := by decide +kernel
theorem dX9_longestOf_48 : decode cX9_longestOf 48 = .ok (.imul, 1) := by decide +kernel
theorem dX9_longestOf_49 : decode cX9_longestOf 49 = .ok (.iload 4, 2) := by decide +kernel
theorem dX9_longestOf_51 : decode cX9_longestOf 51 = .ok (.iadd, 1) := by decide +kernel
theorem dX9_longestOf_52 : decode cX9_longestOf 52 = .ok (.bipush 10, 2) := by decide +kernel
theorem dX9_longestOf_54 : decode cX9_longestOf 54 = .ok (.iload_n 2, 1) := by decide +kernel
theorem dX9_longestOf_55 : decode cX9_longestOf 55 = .ok (.imul, 1) := by decide +kernel
theorem dX9_longestOf_56 : decode cX9_longestOf 56 = .ok (.iload 5, 2) := by decide +kernel
theorem dX9_longestOf_58 : decode cX9_longestOf 58 = .ok (.iadd, 1) := by decide +kernel
theorem dX9_longestOf_59 : decode cX9_longestOf 59 = .ok (.invokevirtual 138, 3) := by decide +kernel
theorem dX9_longestOf_62 : decode cX9_longestOf 62 = .ok (.istore 6, 2) := by decide +kernel
theorem dX9_longestOf_64 : decode cX9_longestOf 64 = .ok (.iload 6, 2) := by decide +kernel
theorem dX9_longestOf_66 : decode cX9_longestOf 66 = .ok (.iload_n 3, 1) := by decide +kernel
theorem dX9_longestOf_67 : decode cX9_longestOf 67 = .ok (.if_icmp .le 8, 3) := by decide +kernel
theorem dX9_longestOf_70 : decode cX9_longestOf 70 = .ok (.iload 6, 2) := by decide +kernel
theorem dX9_longestOf_72 : decode cX9_longestOf 72 = .ok (.goto 4, 3) := by decide +kernel
theorem dX9_longestOf_75 : decode cX9_longestOf 75 = .ok (.iload_n 3, 1) := by decide +kernel
theorem dX9_longestOf_76 : decode cX9_longestOf 76 = .ok (.istore_n 3, 1) := by decide +kernel
theorem dX9_longestOf_77 : decode cX9_longestOf 77 = .ok (.iinc 5 1, 3) := by decide +kernel
theorem dX9_longestOf_80 : decode cX9_longestOf 80 = .ok (.goto (-62), 3) := by decide +kernel
theorem dX9_longestOf_83 : decode cX9_longestOf 83 = .ok (.iinc 4 1, 3) := by decide +kernel
theorem dX9_longestOf_86 : decode cX9_longestOf 86 = .ok (.goto (-81), 3) := by decide +kernel
theorem dX9_longestOf_89 : decode cX9_longestOf 89 = .ok (.iload_n 3, 1) := by decide +kernel
theorem dX9_longestOf_90 : decode cX9_longestOf 90 = .ok (.ireturn, 1) := by decide +kernel
theorem dX9_lineOf_0 : decode cX9_lineOf 0 = .ok (.aload_n 0, 1) := by decide +kernel
theorem dX9_lineOf_1 : decode cX9_lineOf 1 = .ok (.aload_n 0, 1) := by decide +kernel
theorem dX9_lineOf_2 : decode cX9_lineOf 2 = .ok (.iload_n 1, 1) := by decide +kernel
theorem dX9_lineOf_3 : decode cX9_lineOf 3 = .ok (.invokevirtual 57, 3) := by decide +kernel
theorem dX9_lineOf_6 : decode cX9_lineOf 6 = .ok (.ifCond .ne 7, 3) := by decide +kernel
theorem dX9_lineOf_9 : decode cX9_lineOf 9 = .ok (.iconst 1, 1) := by decide +kernel
theorem dX9_lineOf_10 : decode cX9_lineOf 10 = .ok (.goto 17, 3) := by decide +kernel
theorem dX9_lineOf_13 : decode cX9_lineOf 13 = .ok (.iload_n 2, 1) := by decide +kernel
theorem dX9_lineOf_14 : decode cX9_lineOf 14 = .ok (.iconst 0, 1) := by decide +kernel
theorem dX9_lineOf_15 : decode cX9_lineOf 15 = .ok (.iconst 4, 1) := by decide +kernel
theorem dX9_lineOf_16 : decode cX9_lineOf 16 = .ok (.invokestatic 49, 3) := by decide +kernel
theorem dX9_lineOf_19 : decode cX9_lineOf 19 = .ok (.ifCond .eq 7, 3) := by decide +kernel
theorem dX9_lineOf_22 : decode cX9_lineOf 22 = .ok (.iconst 0, 1) := by decide +kernel
theorem dX9_lineOf_23 : decode cX9_lineOf 23 = .ok (.goto 4, 3) := by decide +kernel
theorem dX9_lineOf_26 : decode cX9_lineOf 26 = .ok (.iconst 2, 1) := by decide +kernel
theorem dX9_lineOf_27 : decode cX9_lineOf 27 = .ok (.putfield 36, 3) := by decide +kernel
theorem dX9_lineOf_30 : decode cX9_lineOf 30 = .ok (.aload_n 0, 1) := by decide +kernel
theorem dX9_lineOf_31 : decode cX9_lineOf 31 = .ok (.getfield 36, 3) := by decide +kernel
theorem dX9_lineOf_34 : decode cX9_lineOf 34 = .ok (.ifCond .eq 5, 3) := by decide +kernel
theorem dX9_lineOf_37 : decode cX9_lineOf 37 = .ok (.iconst 0, 1) := by decide +kernel
theorem dX9_lineOf_38 : decode cX9_lineOf 38 = .ok (.ireturn, 1) := by decide +kernel
theorem dX9_lineOf_39 : decode cX9_lineOf 39 = .ok (.iload_n 2, 1) := by decide +kernel
theorem dX9_lineOf_40 : decode cX9_lineOf 40 = .ok (.tableswitch 59 0 3 #[32, 38, 47, 53], 32) := by decide +kernel
theorem dX9_lineOf_72 : decode cX9_lineOf 72 = .ok (.aload_n 0, 1) := by decide +kernel
theorem dX9_lineOf_73 : decode cX9_lineOf 73 = .ok (.iload_n 1, 1) := by decide +kernel
theorem dX9_lineOf_74 : decode cX9_lineOf 74 = .ok (.invokevirtual 61, 3) := by decide +kernel
theorem dX9_lineOf_77 : decode cX9_lineOf 77 = .ok (.ireturn, 1) := by decide +kernel
theorem dX9_lineOf_78 : decode cX9_lineOf 78 = .ok (.aload_n 0, 1) := by decide +kernel
theorem dX9_lineOf_79 : decode cX9_lineOf 79 = .ok (.iload_n 1, 1) := by decide +kernel
theorem dX9_lineOf_80 : decode cX9_lineOf 80 = .ok (.iload_n 1, 1) := by decide +kernel
theorem dX9_lineOf_81 : decode cX9_lineOf 81 = .ok (.iconst 1, 1) := by decide +kernel
theorem dX9_lineOf_82 : decode cX9_lineOf 82 = .ok (.iadd, 1) := by decide +kernel
theorem dX9_lineOf_83 : decode cX9_lineOf 83 = .ok (.invokevirtual 153, 3) := by decide +kernel
theorem dX9_lineOf_86 : decode cX9_lineOf 86 = .ok (.ireturn, 1) := by decide +kernel
theorem dX9_lineOf_87 : decode cX9_lineOf 87 = .ok (.aload_n 0, 1) := by decide +kernel
theorem dX9_lineOf_88 : decode cX9_lineOf 88 = .ok (.iload_n 1, 1) := by decide +kernel
theorem dX9_lineOf_89 : decode cX9_lineOf 89 = .ok (.invokevirtual 156, 3) := by decide +kernel
theorem dX9_lineOf_92 : decode cX9_lineOf 92 = .ok (.ireturn, 1) := by decide +kernel
theorem dX9_lineOf_93 : decode cX9_lineOf 93 = .ok (.aload_n 0, 1) := by decide +kernel
theorem dX9_lineOf_94 : decode cX9_lineOf 94 = .ok (.iload_n 1, 1) := by decide +kernel
theorem dX9_lineOf_95 : decode cX9_lineOf 95 = .ok (.invokevirtual 159, 3) := by decide +kernel
theorem dX9_lineOf_98 : decode cX9_lineOf 98 = .ok (.ireturn, 1) := by decide +kernel
theorem dX9_lineOf_99 : decode cX9_lineOf 99 = .ok (.aload_n 0, 1) := by decide +kernel
theorem dX9_lineOf_100 : decode cX9_lineOf 100 = .ok (.iload_n 1, 1) := by decide +kernel
theorem dX9_lineOf_101 : decode cX9_lineOf 101 = .ok (.iload_n 1, 1) := by decide +kernel
theorem dX9_lineOf_102 : decode cX9_lineOf 102 = .ok (.invokevirtual 162, 3) := by decide +kernel
theorem dX9_lineOf_105 : decode cX9_lineOf 105 = .ok (.ireturn, 1) := by decide +kernel
theorem dX9_letter_0 : decode cX9_letter 0 = .ok (.aload_n 0, 1) := by decide +kernel
theorem dX9_letter_1 : decode cX9_letter 1 = .ok (.aload_n 0, 1) := by decide +kernel
theorem dX9_letter_2 : decode cX9_letter 2 = .ok (.iload_n 1, 1) := by decide +kernel
theorem dX9_letter_3 : decode cX9_letter 3 = .ok (.iload_n 2, 1) := by decide +kernel
theorem dX9_letter_4 : decode cX9_letter 4 = .ok (.invokevirtual 103, 3) := by decide +kernel
theorem dX9_letter_7 : decode cX9_letter 7 = .ok (.ifCond .eq 7, 3) := by decide +kernel
theorem dX9_letter_10 : decode cX9_letter 10 = .ok (.iconst 0, 1) := by decide +kernel
theorem dX9_letter_11 : decode cX9_letter 11 = .ok (.goto 4, 3) := by decide +kernel
theorem dX9_letter_14 : decode cX9_letter 14 = .ok (.iconst 1, 1) := by decide +kernel
theorem dX9_letter_15 : decode cX9_letter 15 = .ok (.putfield 36, 3) := by decide +kernel
theorem dX9_letter_18 : decode cX9_letter 18 = .ok (.aload_n 0, 1) := by decide +kernel
theorem dX9_letter_19 : decode cX9_letter 19 = .ok (.getfield 36, 3) := by decide +kernel
theorem dX9_letter_22 : decode cX9_letter 22 = .ok (.ifCond .ne 13, 3) := by decide +kernel
theorem dX9_letter_25 : decode cX9_letter 25 = .ok (.aload_n 0, 1) := by decide +kernel
theorem dX9_letter_26 : decode cX9_letter 26 = .ok (.iload_n 1, 1) := by decide +kernel
theorem dX9_letter_27 : decode cX9_letter 27 = .ok (.iload_n 2, 1) := by decide +kernel
theorem dX9_letter_28 : decode cX9_letter 28 = .ok (.invokevirtual 107, 3) := by decide +kernel
theorem dX9_letter_31 : decode cX9_letter 31 = .ok (.i2c, 1) := by decide +kernel
theorem dX9_letter_32 : decode cX9_letter 32 = .ok (.goto 4, 3) := by decide +kernel
theorem dX9_letter_35 : decode cX9_letter 35 = .ok (.iconst 0, 1) := by decide +kernel
theorem dX9_letter_36 : decode cX9_letter 36 = .ok (.ireturn, 1) := by decide +kernel
theorem dX9_ending_0 : decode cX9_ending 0 = .ok (.aload_n 0, 1) := by decide +kernel
theorem dX9_ending_1 : decode cX9_ending 1 = .ok (.invokevirtual 147, 3) := by decide +kernel
theorem dX9_ending_4 : decode cX9_ending 4 = .ok (.aload_n 0, 1) := by decide +kernel
theorem dX9_ending_5 : decode cX9_ending 5 = .ok (.iload_n 1, 1) := by decide +kernel
theorem dX9_ending_6 : decode cX9_ending 6 = .ok (.iconst 0, 1) := by decide +kernel
theorem dX9_ending_7 : decode cX9_ending 7 = .ok (.aload_n 0, 1) := by decide +kernel
theorem dX9_ending_8 : decode cX9_ending 8 = .ok (.getfield 141, 3) := by decide +kernel
theorem dX9_ending_11 : decode cX9_ending 11 = .ok (.iconst 1, 1) := by decide +kernel
theorem dX9_ending_12 : decode cX9_ending 12 = .ok (.isub, 1) := by decide +kernel
theorem dX9_ending_13 : decode cX9_ending 13 = .ok (.invokestatic 49, 3) := by decide +kernel
theorem dX9_ending_16 : decode cX9_ending 16 = .ok (.ifCond .eq 7, 3) := by decide +kernel
theorem dX9_ending_19 : decode cX9_ending 19 = .ok (.iconst 0, 1) := by decide +kernel
theorem dX9_ending_20 : decode cX9_ending 20 = .ok (.goto 4, 3) := by decide +kernel
theorem dX9_ending_23 : decode cX9_ending 23 = .ok (.iconst 1, 1) := by decide +kernel
theorem dX9_ending_24 : decode cX9_ending 24 = .ok (.putfield 36, 3) := by decide +kernel
theorem dX9_ending_27 : decode cX9_ending 27 = .ok (.aload_n 0, 1) := by decide +kernel
theorem dX9_ending_28 : decode cX9_ending 28 = .ok (.getfield 36, 3) := by decide +kernel
theorem dX9_ending_31 : decode cX9_ending 31 = .ok (.ifCond .eq 7, 3) := by decide +kernel
theorem dX9_ending_34 : decode cX9_ending 34 = .ok (.iconst 0, 1) := by decide +kernel
theorem dX9_ending_35 : decode cX9_ending 35 = .ok (.goto 28, 3) := by decide +kernel
theorem dX9_ending_38 : decode cX9_ending 38 = .ok (.iload_n 2, 1) := by decide +kernel
theorem dX9_ending_39 : decode cX9_ending 39 = .ok (.ifCond .eq 15, 3) := by decide +kernel
theorem dX9_ending_42 : decode cX9_ending 42 = .ok (.aload_n 0, 1) := by decide +kernel
theorem dX9_ending_43 : decode cX9_ending 43 = .ok (.getfield 23, 3) := by decide +kernel
theorem dX9_ending_46 : decode cX9_ending 46 = .ok (.iload_n 1, 1) := by decide +kernel
theorem dX9_ending_47 : decode cX9_ending 47 = .ok (.iaload, 1) := by decide +kernel
theorem dX9_ending_48 : decode cX9_ending 48 = .ok (.bipush 10, 2) := by decide +kernel
theorem dX9_ending_50 : decode cX9_ending 50 = .ok (.irem, 1) := by decide +kernel
theorem dX9_ending_51 : decode cX9_ending 51 = .ok (.goto 12, 3) := by decide +kernel
theorem dX9_ending_54 : decode cX9_ending 54 = .ok (.aload_n 0, 1) := by decide +kernel
theorem dX9_ending_55 : decode cX9_ending 55 = .ok (.getfield 23, 3) := by decide +kernel
theorem dX9_ending_58 : decode cX9_ending 58 = .ok (.iload_n 1, 1) := by decide +kernel
theorem dX9_ending_59 : decode cX9_ending 59 = .ok (.iaload, 1) := by decide +kernel
theorem dX9_ending_60 : decode cX9_ending 60 = .ok (.bipush 10, 2) := by decide +kernel
theorem dX9_ending_62 : decode cX9_ending 62 = .ok (.idiv, 1) := by decide +kernel
theorem dX9_ending_63 : decode cX9_ending 63 = .ok (.ireturn, 1) := by decide +kernel
theorem dX9_rank_0 : decode cX9_rank 0 = .ok (.aload_n 0, 1) := by decide +kernel
theorem dX9_rank_1 : decode cX9_rank 1 = .ok (.aload_n 0, 1) := by decide +kernel
theorem dX9_rank_2 : decode cX9_rank 2 = .ok (.iload_n 1, 1) := by decide +kernel
theorem dX9_rank_3 : decode cX9_rank 3 = .ok (.iload_n 2, 1) := by decide +kernel
theorem dX9_rank_4 : decode cX9_rank 4 = .ok (.invokevirtual 103, 3) := by decide +kernel
theorem dX9_rank_7 : decode cX9_rank 7 = .ok (.ifCond .eq 7, 3) := by decide +kernel
theorem dX9_rank_10 : decode cX9_rank 10 = .ok (.iconst 0, 1) := by decide +kernel
theorem dX9_rank_11 : decode cX9_rank 11 = .ok (.goto 4, 3) := by decide +kernel
theorem dX9_rank_14 : decode cX9_rank 14 = .ok (.iconst 1, 1) := by decide +kernel
theorem dX9_rank_15 : decode cX9_rank 15 = .ok (.putfield 36, 3) := by decide +kernel
theorem dX9_rank_18 : decode cX9_rank 18 = .ok (.aload_n 0, 1) := by decide +kernel
theorem dX9_rank_19 : decode cX9_rank 19 = .ok (.getfield 36, 3) := by decide +kernel
theorem dX9_rank_22 : decode cX9_rank 22 = .ok (.ifCond .ne 12, 3) := by decide +kernel
theorem dX9_rank_25 : decode cX9_rank 25 = .ok (.aload_n 0, 1) := by decide +kernel
theorem dX9_rank_26 : decode cX9_rank 26 = .ok (.iload_n 1, 1) := by decide +kernel
theorem dX9_rank_27 : decode cX9_rank 27 = .ok (.iload_n 2, 1) := by decide +kernel
theorem dX9_rank_28 : decode cX9_rank 28 = .ok (.invokevirtual 111, 3) := by decide +kernel
theorem dX9_rank_31 : decode cX9_rank 31 = .ok (.goto 4, 3) := by decide +kernel
theorem dX9_rank_34 : decode cX9_rank 34 = .ok (.iconst 0, 1) := by decide +kernel
theorem dX9_rank_35 : decode cX9_rank 35 = .ok (.ireturn, 1) := by decide +kernel
theorem dX9_rankAgain_0 : decode cX9_rankAgain 0 = .ok (.aload_n 0, 1) := by decide +kernel
theorem dX9_rankAgain_1 : decode cX9_rankAgain 1 = .ok (.iload_n 1, 1) := by decide +kernel
theorem dX9_rankAgain_2 : decode cX9_rankAgain 2 = .ok (.iload_n 2, 1) := by decide +kernel
theorem dX9_rankAgain_3 : decode cX9_rankAgain 3 = .ok (.invokevirtual 165, 3) := by decide +kernel
theorem dX9_rankAgain_6 : decode cX9_rankAgain 6 = .ok (.ireturn, 1) := by decide +kernel
theorem dX9_common_0 : decode cX9_common 0 = .ok (.aload_n 0, 1) := by decide +kernel
theorem dX9_common_1 : decode cX9_common 1 = .ok (.invokevirtual 147, 3) := by decide +kernel
theorem dX9_common_4 : decode cX9_common 4 = .ok (.aload_n 0, 1) := by decide +kernel
theorem dX9_common_5 : decode cX9_common 5 = .ok (.iload_n 1, 1) := by decide +kernel
theorem dX9_common_6 : decode cX9_common 6 = .ok (.iconst 1, 1) := by decide +kernel
theorem dX9_common_7 : decode cX9_common 7 = .ok (.aload_n 0, 1) := by decide +kernel
theorem dX9_common_8 : decode cX9_common 8 = .ok (.getfield 141, 3) := by decide +kernel
theorem dX9_common_11 : decode cX9_common 11 = .ok (.iconst 1, 1) := by decide +kernel
theorem dX9_common_12 : decode cX9_common 12 = .ok (.isub, 1) := by decide +kernel
theorem dX9_common_13 : decode cX9_common 13 = .ok (.invokestatic 49, 3) := by decide +kernel
theorem dX9_common_16 : decode cX9_common 16 = .ok (.ifCond .eq 7, 3) := by decide +kernel
theorem dX9_common_19 : decode cX9_common 19 = .ok (.iconst 0, 1) := by decide +kernel
theorem dX9_common_20 : decode cX9_common 20 = .ok (.goto 4, 3) := by decide +kernel
theorem dX9_common_23 : decode cX9_common 23 = .ok (.iconst 1, 1) := by decide +kernel
theorem dX9_common_24 : decode cX9_common 24 = .ok (.putfield 36, 3) := by decide +kernel
theorem dX9_common_27 : decode cX9_common 27 = .ok (.aload_n 0, 1) := by decide +kernel
theorem dX9_common_28 : decode cX9_common 28 = .ok (.getfield 36, 3) := by decide +kernel
theorem dX9_common_31 : decode cX9_common 31 = .ok (.ifCond .ne 11, 3) := by decide +kernel
theorem dX9_common_34 : decode cX9_common 34 = .ok (.aload_n 0, 1) := by decide +kernel
theorem dX9_common_35 : decode cX9_common 35 = .ok (.iload_n 1, 1) := by decide +kernel
theorem dX9_common_36 : decode cX9_common 36 = .ok (.invokevirtual 168, 3) := by decide +kernel
theorem dX9_common_39 : decode cX9_common 39 = .ok (.goto 4, 3) := by decide +kernel
theorem dX9_common_42 : decode cX9_common 42 = .ok (.iconst 0, 1) := by decide +kernel
theorem dX9_common_43 : decode cX9_common 43 = .ok (.ireturn, 1) := by decide +kernel
theorem dX9_commonOf_0 : decode cX9_commonOf 0 = .ok (.aload_n 0, 1) := by decide +kernel
theorem dX9_commonOf_1 : decode cX9_commonOf 1 = .ok (.aload_n 0, 1) := by decide +kernel
theorem dX9_commonOf_2 : decode cX9_commonOf 2 = .ok (.iload_n 1, 1) := by decide +kernel
theorem dX9_commonOf_3 : decode cX9_commonOf 3 = .ok (.iload_n 2, 1) := by decide +kernel
theorem dX9_commonOf_4 : decode cX9_commonOf 4 = .ok (.invokevirtual 103, 3) := by decide +kernel
theorem dX9_commonOf_7 : decode cX9_commonOf 7 = .ok (.ifCond .eq 17, 3) := by decide +kernel
theorem dX9_commonOf_10 : decode cX9_commonOf 10 = .ok (.aload_n 0, 1) := by decide +kernel
theorem dX9_commonOf_11 : decode cX9_commonOf 11 = .ok (.iload_n 3, 1) := by decide +kernel
theorem dX9_commonOf_12 : decode cX9_commonOf 12 = .ok (.iload 4, 2) := by decide +kernel
theorem dX9_commonOf_14 : decode cX9_commonOf 14 = .ok (.invokevirtual 103, 3) := by decide +kernel
theorem dX9_commonOf_17 : decode cX9_commonOf 17 = .ok (.ifCond .eq 7, 3) := by decide +kernel
theorem dX9_commonOf_20 : decode cX9_commonOf 20 = .ok (.iconst 0, 1) := by decide +kernel
theorem dX9_commonOf_21 : decode cX9_commonOf 21 = .ok (.goto 4, 3) := by decide +kernel
theorem dX9_commonOf_24 : decode cX9_commonOf 24 = .ok (.iconst 1, 1) := by decide +kernel
theorem dX9_commonOf_25 : decode cX9_commonOf 25 = .ok (.putfield 36, 3) := by decide +kernel
theorem dX9_commonOf_28 : decode cX9_commonOf 28 = .ok (.aload_n 0, 1) := by decide +kernel
theorem dX9_commonOf_29 : decode cX9_commonOf 29 = .ok (.getfield 36, 3) := by decide +kernel
theorem dX9_commonOf_32 : decode cX9_commonOf 32 = .ok (.ifCond .ne 23, 3) := by decide +kernel
theorem dX9_commonOf_35 : decode cX9_commonOf 35 = .ok (.aload_n 0, 1) := by decide +kernel
theorem dX9_commonOf_36 : decode cX9_commonOf 36 = .ok (.bipush 10, 2) := by decide +kernel
theorem dX9_commonOf_38 : decode cX9_commonOf 38 = .ok (.iload_n 1, 1) := by decide +kernel
theorem dX9_commonOf_39 : decode cX9_commonOf 39 = .ok (.imul, 1) := by decide +kernel
theorem dX9_commonOf_40 : decode cX9_commonOf 40 = .ok (.iload_n 2, 1) := by decide +kernel
theorem dX9_commonOf_41 : decode cX9_commonOf 41 = .ok (.iadd, 1) := by decide +kernel
theorem dX9_commonOf_42 : decode cX9_commonOf 42 = .ok (.bipush 10, 2) := by decide +kernel
theorem dX9_commonOf_44 : decode cX9_commonOf 44 = .ok (.iload_n 3, 1) := by decide +kernel
theorem dX9_commonOf_45 : decode cX9_commonOf 45 = .ok (.imul, 1) := by decide +kernel
theorem dX9_commonOf_46 : decode cX9_commonOf 46 = .ok (.iload 4, 2) := by decide +kernel
theorem dX9_commonOf_48 : decode cX9_commonOf 48 = .ok (.iadd, 1) := by decide +kernel
theorem dX9_commonOf_49 : decode cX9_commonOf 49 = .ok (.invokevirtual 138, 3) := by decide +kernel
theorem dX9_commonOf_52 : decode cX9_commonOf 52 = .ok (.goto 4, 3) := by decide +kernel
theorem dX9_commonOf_55 : decode cX9_commonOf 55 = .ok (.iconst 0, 1) := by decide +kernel
theorem dX9_commonOf_56 : decode cX9_commonOf 56 = .ok (.ireturn, 1) := by decide +kernel
theorem dX9_commons_0 : decode cX9_commons 0 = .ok (.aload_n 0, 1) := by decide +kernel
theorem dX9_commons_1 : decode cX9_commons 1 = .ok (.invokevirtual 147, 3) := by decide +kernel
theorem dX9_commons_4 : decode cX9_commons 4 = .ok (.iconst 0, 1) := by decide +kernel
theorem dX9_commons_5 : decode cX9_commons 5 = .ok (.istore_n 2, 1) := by decide +kernel
theorem dX9_commons_6 : decode cX9_commons 6 = .ok (.iconst (-1), 1) := by decide +kernel
theorem dX9_commons_7 : decode cX9_commons 7 = .ok (.istore_n 3, 1) := by decide +kernel
theorem dX9_commons_8 : decode cX9_commons 8 = .ok (.iconst 0, 1) := by decide +kernel
theorem dX9_commons_9 : decode cX9_commons 9 = .ok (.istore 4, 2) := by decide +kernel
theorem dX9_commons_11 : decode cX9_commons 11 = .ok (.iconst 0, 1) := by decide +kernel
theorem dX9_commons_12 : decode cX9_commons 12 = .ok (.istore 5, 2) := by decide +kernel
theorem dX9_commons_14 : decode cX9_commons 14 = .ok (.iconst 1, 1) := by decide +kernel
theorem dX9_commons_15 : decode cX9_commons 15 = .ok (.istore 6, 2) := by decide +kernel
theorem dX9_commons_17 : decode cX9_commons 17 = .ok (.iload 6, 2) := by decide +kernel
theorem dX9_commons_19 : decode cX9_commons 19 = .ok (.aload_n 0, 1) := by decide +kernel
theorem dX9_commons_20 : decode cX9_commons 20 = .ok (.getfield 141, 3) := by decide +kernel
theorem dX9_commons_23 : decode cX9_commons 23 = .ok (.if_icmp .ge 67, 3) := by decide +kernel
theorem dX9_commons_26 : decode cX9_commons 26 = .ok (.aload_n 0, 1) := by decide +kernel
theorem dX9_commons_27 : decode cX9_commons 27 = .ok (.iload 6, 2) := by decide +kernel
theorem dX9_commons_29 : decode cX9_commons 29 = .ok (.invokevirtual 168, 3) := by decide +kernel
theorem dX9_commons_32 : decode cX9_commons 32 = .ok (.istore 7, 2) := by decide +kernel
theorem dX9_commons_34 : decode cX9_commons 34 = .ok (.iload 7, 2) := by decide +kernel
theorem dX9_commons_36 : decode cX9_commons 36 = .ok (.iload_n 2, 1) := by decide +kernel
theorem dX9_commons_37 : decode cX9_commons 37 = .ok (.if_icmp .le 10, 3) := by decide +kernel
theorem dX9_commons_40 : decode cX9_commons 40 = .ok (.iload 6, 2) := by decide +kernel
theorem dX9_commons_42 : decode cX9_commons 42 = .ok (.iconst 1, 1) := by decide +kernel
theorem dX9_commons_43 : decode cX9_commons 43 = .ok (.isub, 1) := by decide +kernel
theorem dX9_commons_44 : decode cX9_commons 44 = .ok (.goto 4, 3) := by decide +kernel
theorem dX9_commons_47 : decode cX9_commons 47 = .ok (.iload_n 3, 1) := by decide +kernel
theorem dX9_commons_48 : decode cX9_commons 48 = .ok (.istore_n 3, 1) := by decide +kernel
theorem dX9_commons_49 : decode cX9_commons 49 = .ok (.iload 7, 2) := by decide +kernel
theorem dX9_commons_51 : decode cX9_commons 51 = .ok (.iload_n 2, 1) := by decide +kernel
theorem dX9_commons_52 : decode cX9_commons 52 = .ok (.if_icmp .le 8, 3) := by decide +kernel
theorem dX9_commons_55 : decode cX9_commons 55 = .ok (.iload 7, 2) := by decide +kernel
theorem dX9_commons_57 : decode cX9_commons 57 = .ok (.goto 4, 3) := by decide +kernel
theorem dX9_commons_60 : decode cX9_commons 60 = .ok (.iload_n 2, 1) := by decide +kernel
theorem dX9_commons_61 : decode cX9_commons 61 = .ok (.istore_n 2, 1) := by decide +kernel
theorem dX9_commons_62 : decode cX9_commons 62 = .ok (.iload 4, 2) := by decide +kernel
theorem dX9_commons_64 : decode cX9_commons 64 = .ok (.iload 7, 2) := by decide +kernel
theorem dX9_commons_66 : decode cX9_commons 66 = .ok (.iadd, 1) := by decide +kernel
theorem dX9_commons_67 : decode cX9_commons 67 = .ok (.istore 4, 2) := by decide +kernel
theorem dX9_commons_69 : decode cX9_commons 69 = .ok (.iload 5, 2) := by decide +kernel
theorem dX9_commons_71 : decode cX9_commons 71 = .ok (.iload 7, 2) := by decide +kernel
theorem dX9_commons_73 : decode cX9_commons 73 = .ok (.ifCond .le 7, 3) := by decide +kernel
theorem dX9_commons_76 : decode cX9_commons 76 = .ok (.iconst 1, 1) := by decide +kernel
theorem dX9_commons_77 : decode cX9_commons 77 = .ok (.goto 4, 3) := by decide +kernel
theorem dX9_commons_80 : decode cX9_commons 80 = .ok (.iconst 0, 1) := by decide +kernel
theorem dX9_commons_81 : decode cX9_commons 81 = .ok (.iadd, 1) := by decide +kernel
theorem dX9_commons_82 : decode cX9_commons 82 = .ok (.istore 5, 2) := by decide +kernel
theorem dX9_commons_84 : decode cX9_commons 84 = .ok (.iinc 6 1, 3) := by decide +kernel
theorem dX9_commons_87 : decode cX9_commons 87 = .ok (.goto (-70), 3) := by decide +kernel
theorem dX9_commons_90 : decode cX9_commons 90 = .ok (.iload_n 1, 1) := by decide +kernel
theorem dX9_commons_91 : decode cX9_commons 91 = .ok (.ifCond .ne 7, 3) := by decide +kernel
theorem dX9_commons_94 : decode cX9_commons 94 = .ok (.iload_n 2, 1) := by decide +kernel
theorem dX9_commons_95 : decode cX9_commons 95 = .ok (.goto 24, 3) := by decide +kernel
theorem dX9_commons_98 : decode cX9_commons 98 = .ok (.iload_n 1, 1) := by decide +kernel
theorem dX9_commons_99 : decode cX9_commons 99 = .ok (.iconst 1, 1) := by decide +kernel
theorem dX9_commons_100 : decode cX9_commons 100 = .ok (.if_icmp .ne 7, 3) := by decide +kernel
theorem dX9_commons_103 : decode cX9_commons 103 = .ok (.iload_n 3, 1) := by decide +kernel
theorem dX9_commons_104 : decode cX9_commons 104 = .ok (.goto 15, 3) := by decide +kernel
theorem dX9_commons_107 : decode cX9_commons 107 = .ok (.iload_n 1, 1) := by decide +kernel
theorem dX9_commons_108 : decode cX9_commons 108 = .ok (.iconst 2, 1) := by decide +kernel
theorem dX9_commons_109 : decode cX9_commons 109 = .ok (.if_icmp .ne 8, 3) := by decide +kernel
theorem dX9_commons_112 : decode cX9_commons 112 = .ok (.iload 4, 2) := by decide +kernel
theorem dX9_commons_114 : decode cX9_commons 114 = .ok (.goto 5, 3) := by decide +kernel
theorem dX9_commons_117 : decode cX9_commons 117 = .ok (.iload 5, 2) := by decide +kernel
theorem dX9_commons_119 : decode cX9_commons 119 = .ok (.ireturn, 1) := by decide +kernel
theorem dX9_longest_0 : decode cX9_longest 0 = .ok (.aload_n 0, 1) := by decide +kernel
theorem dX9_longest_1 : decode cX9_longest 1 = .ok (.iconst 0, 1) := by decide +kernel
theorem dX9_longest_2 : decode cX9_longest 2 = .ok (.putfield 36, 3) := by decide +kernel
theorem dX9_longest_5 : decode cX9_longest 5 = .ok (.aload_n 0, 1) := by decide +kernel
theorem dX9_longest_6 : decode cX9_longest 6 = .ok (.iconst 0, 1) := by decide +kernel
theorem dX9_longest_7 : decode cX9_longest 7 = .ok (.invokevirtual 171, 3) := by decide +kernel
theorem dX9_longest_10 : decode cX9_longest 10 = .ok (.ireturn, 1) := by decide +kernel
theorem dX9_longestRank_0 : decode cX9_longestRank 0 = .ok (.aload_n 0, 1) := by decide +kernel
theorem dX9_longestRank_1 : decode cX9_longestRank 1 = .ok (.iconst 1, 1) := by decide +kernel
theorem dX9_longestRank_2 : decode cX9_longestRank 2 = .ok (.invokevirtual 171, 3) := by decide +kernel
theorem dX9_longestRank_5 : decode cX9_longestRank 5 = .ok (.istore_n 1, 1) := by decide +kernel
theorem dX9_longestRank_6 : decode cX9_longestRank 6 = .ok (.aload_n 0, 1) := by decide +kernel
theorem dX9_longestRank_7 : decode cX9_longestRank 7 = .ok (.iload_n 1, 1) := by decide +kernel
theorem dX9_longestRank_8 : decode cX9_longestRank 8 = .ok (.iconst (-1), 1) := by decide +kernel
theorem dX9_longestRank_9 : decode cX9_longestRank 9 = .ok (.if_icmp .ne 7, 3) := by decide +kernel
theorem dX9_longestRank_12 : decode cX9_longestRank 12 = .ok (.iconst 1, 1) := by decide +kernel
theorem dX9_longestRank_13 : decode cX9_longestRank 13 = .ok (.goto 4, 3) := by decide +kernel
theorem dX9_longestRank_16 : decode cX9_longestRank 16 = .ok (.iconst 0, 1) := by decide +kernel
theorem dX9_longestRank_17 : decode cX9_longestRank 17 = .ok (.putfield 36, 3) := by decide +kernel
theorem dX9_longestRank_20 : decode cX9_longestRank 20 = .ok (.aload_n 0, 1) := by decide +kernel
theorem dX9_longestRank_21 : decode cX9_longestRank 21 = .ok (.getfield 36, 3) := by decide +kernel
theorem dX9_longestRank_24 : decode cX9_longestRank 24 = .ok (.ifCond .ne 7, 3) := by decide +kernel
theorem dX9_longestRank_27 : decode cX9_longestRank 27 = .ok (.iload_n 1, 1) := by decide +kernel
theorem dX9_longestRank_28 : decode cX9_longestRank 28 = .ok (.goto 4, 3) := by decide +kernel
theorem dX9_longestRank_31 : decode cX9_longestRank 31 = .ok (.iconst 0, 1) := by decide +kernel
theorem dX9_longestRank_32 : decode cX9_longestRank 32 = .ok (.ireturn, 1) := by decide +kernel
theorem dX9_pieces_0 : decode cX9_pieces 0 = .ok (.aload_n 0, 1) := by decide +kernel
theorem dX9_pieces_1 : decode cX9_pieces 1 = .ok (.iconst 0, 1) := by decide +kernel
theorem dX9_pieces_2 : decode cX9_pieces 2 = .ok (.putfield 36, 3) := by decide +kernel
theorem dX9_pieces_5 : decode cX9_pieces 5 = .ok (.aload_n 0, 1) := by decide +kernel
theorem dX9_pieces_6 : decode cX9_pieces 6 = .ok (.iconst 2, 1) := by decide +kernel
theorem dX9_pieces_7 : decode cX9_pieces 7 = .ok (.invokevirtual 171, 3) := by decide +kernel
theorem dX9_pieces_10 : decode cX9_pieces 10 = .ok (.ineg, 1) := by decide +kernel
theorem dX9_pieces_11 : decode cX9_pieces 11 = .ok (.istore_n 1, 1) := by decide +kernel
theorem dX9_pieces_12 : decode cX9_pieces 12 = .ok (.iconst 0, 1) := by decide +kernel
theorem dX9_pieces_13 : decode cX9_pieces 13 = .ok (.istore_n 2, 1) := by decide +kernel
theorem dX9_pieces_14 : decode cX9_pieces 14 = .ok (.iload_n 2, 1) := by decide +kernel
theorem dX9_pieces_15 : decode cX9_pieces 15 = .ok (.aload_n 0, 1) := by decide +kernel
theorem dX9_pieces_16 : decode cX9_pieces 16 = .ok (.getfield 141, 3) := by decide +kernel
theorem dX9_pieces_19 : decode cX9_pieces 19 = .ok (.if_icmp .ge 22, 3) := by decide +kernel
theorem dX9_pieces_22 : decode cX9_pieces 22 = .ok (.iload_n 1, 1) := by decide +kernel
theorem dX9_pieces_23 : decode cX9_pieces 23 = .ok (.aload_n 0, 1) := by decide +kernel
theorem dX9_pieces_24 : decode cX9_pieces 24 = .ok (.aload_n 0, 1) := by decide +kernel
theorem dX9_pieces_25 : decode cX9_pieces 25 = .ok (.getfield 23, 3) := by decide +kernel
theorem dX9_pieces_28 : decode cX9_pieces 28 = .ok (.iload_n 2, 1) := by decide +kernel
theorem dX9_pieces_29 : decode cX9_pieces 29 = .ok (.iaload, 1) := by decide +kernel
theorem dX9_pieces_30 : decode cX9_pieces 30 = .ok (.invokevirtual 132, 3) := by decide +kernel
theorem dX9_pieces_33 : decode cX9_pieces 33 = .ok (.iadd, 1) := by decide +kernel
theorem dX9_pieces_34 : decode cX9_pieces 34 = .ok (.istore_n 1, 1) := by decide +kernel
theorem dX9_pieces_35 : decode cX9_pieces 35 = .ok (.iinc 2 1, 3) := by decide +kernel
theorem dX9_pieces_38 : decode cX9_pieces 38 = .ok (.goto (-24), 3) := by decide +kernel
theorem dX9_pieces_41 : decode cX9_pieces 41 = .ok (.iload_n 1, 1) := by decide +kernel
theorem dX9_pieces_42 : decode cX9_pieces 42 = .ok (.ireturn, 1) := by decide +kernel
theorem dX9_piecesAgain_0 : decode cX9_piecesAgain 0 = .ok (.aload_n 0, 1) := by decide +kernel
theorem dX9_piecesAgain_1 : decode cX9_piecesAgain 1 = .ok (.invokevirtual 174, 3) := by decide +kernel
theorem dX9_piecesAgain_4 : decode cX9_piecesAgain 4 = .ok (.ireturn, 1) := by decide +kernel
theorem dX9_kinds_0 : decode cX9_kinds 0 = .ok (.aload_n 0, 1) := by decide +kernel
theorem dX9_kinds_1 : decode cX9_kinds 1 = .ok (.iconst 0, 1) := by decide +kernel
theorem dX9_kinds_2 : decode cX9_kinds 2 = .ok (.putfield 36, 3) := by decide +kernel
theorem dX9_kinds_5 : decode cX9_kinds 5 = .ok (.iconst 0, 1) := by decide +kernel
theorem dX9_kinds_6 : decode cX9_kinds 6 = .ok (.istore_n 1, 1) := by decide +kernel
theorem dX9_kinds_7 : decode cX9_kinds 7 = .ok (.iconst 0, 1) := by decide +kernel
theorem dX9_kinds_8 : decode cX9_kinds 8 = .ok (.istore_n 2, 1) := by decide +kernel
theorem dX9_kinds_9 : decode cX9_kinds 9 = .ok (.iload_n 2, 1) := by decide +kernel
theorem dX9_kinds_10 : decode cX9_kinds 10 = .ok (.aload_n 0, 1) := by decide +kernel
theorem dX9_kinds_11 : decode cX9_kinds 11 = .ok (.invokevirtual 53, 3) := by decide +kernel
theorem dX9_kinds_14 : decode cX9_kinds 14 = .ok (.if_icmp .ge 39, 3) := by decide +kernel
theorem dX9_kinds_17 : decode cX9_kinds 17 = .ok (.iconst 0, 1) := by decide +kernel
theorem dX9_kinds_18 : decode cX9_kinds 18 = .ok (.istore_n 3, 1) := by decide +kernel
theorem dX9_kinds_19 : decode cX9_kinds 19 = .ok (.aload_n 0, 1) := by decide +kernel
theorem dX9_kinds_20 : decode cX9_kinds 20 = .ok (.iload_n 3, 1) := by decide +kernel
theorem dX9_kinds_21 : decode cX9_kinds 21 = .ok (.iload_n 2, 1) := by decide +kernel
theorem dX9_kinds_22 : decode cX9_kinds 22 = .ok (.invokevirtual 150, 3) := by decide +kernel
theorem dX9_kinds_25 : decode cX9_kinds 25 = .ok (.ifCond .ne 9, 3) := by decide +kernel
theorem dX9_kinds_28 : decode cX9_kinds 28 = .ok (.iinc 3 1, 3) := by decide +kernel
theorem dX9_kinds_31 : decode cX9_kinds 31 = .ok (.goto (-12), 3) := by decide +kernel
theorem dX9_kinds_34 : decode cX9_kinds 34 = .ok (.iload_n 1, 1) := by decide +kernel
theorem dX9_kinds_35 : decode cX9_kinds 35 = .ok (.iload_n 3, 1) := by decide +kernel
theorem dX9_kinds_36 : decode cX9_kinds 36 = .ok (.iload_n 2, 1) := by decide +kernel
theorem dX9_kinds_37 : decode cX9_kinds 37 = .ok (.if_icmp .ne 7, 3) := by decide +kernel
theorem dX9_kinds_40 : decode cX9_kinds 40 = .ok (.iconst 1, 1) := by decide +kernel
theorem dX9_kinds_41 : decode cX9_kinds 41 = .ok (.goto 4, 3) := by decide +kernel
theorem dX9_kinds_44 : decode cX9_kinds 44 = .ok (.iconst 0, 1) := by decide +kernel
theorem dX9_kinds_45 : decode cX9_kinds 45 = .ok (.iadd, 1) := by decide +kernel
theorem dX9_kinds_46 : decode cX9_kinds 46 = .ok (.istore_n 1, 1) := by decide +kernel
theorem dX9_kinds_47 : decode cX9_kinds 47 = .ok (.iinc 2 1, 3) := by decide +kernel
theorem dX9_kinds_50 : decode cX9_kinds 50 = .ok (.goto (-41), 3) := by decide +kernel
theorem dX9_kinds_53 : decode cX9_kinds 53 = .ok (.iload_n 1, 1) := by decide +kernel
theorem dX9_kinds_54 : decode cX9_kinds 54 = .ok (.ireturn, 1) := by decide +kernel
theorem dX9_beginsWith_0 : decode cX9_beginsWith 0 = .ok (.aload_n 0, 1) := by decide +kernel
theorem dX9_beginsWith_1 : decode cX9_beginsWith 1 = .ok (.iload_n 1, 1) := by decide +kernel
theorem dX9_beginsWith_2 : decode cX9_beginsWith 2 = .ok (.invokevirtual 132, 3) := by decide +kernel
theorem dX9_beginsWith_5 : decode cX9_beginsWith 5 = .ok (.aload_n 0, 1) := by decide +kernel
theorem dX9_beginsWith_6 : decode cX9_beginsWith 6 = .ok (.getfield 72, 3) := by decide +kernel
theorem dX9_beginsWith_9 : decode cX9_beginsWith 9 = .ok (.if_icmp .ge 5, 3) := by decide +kernel
theorem dX9_beginsWith_12 : decode cX9_beginsWith 12 = .ok (.iconst 0, 1) := by decide +kernel
theorem dX9_beginsWith_13 : decode cX9_beginsWith 13 = .ok (.ireturn, 1) := by decide +kernel
theorem dX9_beginsWith_14 : decode cX9_beginsWith 14 = .ok (.iconst 0, 1) := by decide +kernel
theorem dX9_beginsWith_15 : decode cX9_beginsWith 15 = .ok (.istore_n 2, 1) := by decide +kernel
theorem dX9_beginsWith_16 : decode cX9_beginsWith 16 = .ok (.iload_n 2, 1) := by decide +kernel
theorem dX9_beginsWith_17 : decode cX9_beginsWith 17 = .ok (.aload_n 0, 1) := by decide +kernel
theorem dX9_beginsWith_18 : decode cX9_beginsWith 18 = .ok (.getfield 72, 3) := by decide +kernel
theorem dX9_beginsWith_21 : decode cX9_beginsWith 21 = .ok (.if_icmp .ge 26, 3) := by decide +kernel
theorem dX9_beginsWith_24 : decode cX9_beginsWith 24 = .ok (.aload_n 0, 1) := by decide +kernel
theorem dX9_beginsWith_25 : decode cX9_beginsWith 25 = .ok (.iload_n 1, 1) := by decide +kernel
theorem dX9_beginsWith_26 : decode cX9_beginsWith 26 = .ok (.iload_n 2, 1) := by decide +kernel
theorem dX9_beginsWith_27 : decode cX9_beginsWith 27 = .ok (.invokevirtual 135, 3) := by decide +kernel
theorem dX9_beginsWith_30 : decode cX9_beginsWith 30 = .ok (.aload_n 0, 1) := by decide +kernel
theorem dX9_beginsWith_31 : decode cX9_beginsWith 31 = .ok (.getfield 20, 3) := by decide +kernel
theorem dX9_beginsWith_34 : decode cX9_beginsWith 34 = .ok (.iload_n 2, 1) := by decide +kernel
theorem dX9_beginsWith_35 : decode cX9_beginsWith 35 = .ok (.iaload, 1) := by decide +kernel
theorem dX9_beginsWith_36 : decode cX9_beginsWith 36 = .ok (.if_icmp .eq 5, 3) := by decide +kernel
theorem dX9_beginsWith_39 : decode cX9_beginsWith 39 = .ok (.iconst 0, 1) := by decide +kernel
theorem dX9_beginsWith_40 : decode cX9_beginsWith 40 = .ok (.ireturn, 1) := by decide +kernel
theorem dX9_beginsWith_41 : decode cX9_beginsWith 41 = .ok (.iinc 2 1, 3) := by decide +kernel
theorem dX9_beginsWith_44 : decode cX9_beginsWith 44 = .ok (.goto (-28), 3) := by decide +kernel
theorem dX9_beginsWith_47 : decode cX9_beginsWith 47 = .ok (.iconst 1, 1) := by decide +kernel
theorem dX9_beginsWith_48 : decode cX9_beginsWith 48 = .ok (.ireturn, 1) := by decide +kernel
theorem dX9_finds1_0 : decode cX9_finds1 0 = .ok (.aload_n 0, 1) := by decide +kernel
theorem dX9_finds1_1 : decode cX9_finds1 1 = .ok (.invokevirtual 147, 3) := by decide +kernel
theorem dX9_finds1_4 : decode cX9_finds1 4 = .ok (.iconst 0, 1) := by decide +kernel
theorem dX9_finds1_5 : decode cX9_finds1 5 = .ok (.istore_n 1, 1) := by decide +kernel
theorem dX9_finds1_6 : decode cX9_finds1 6 = .ok (.iconst 0, 1) := by decide +kernel
theorem dX9_finds1_7 : decode cX9_finds1 7 = .ok (.istore_n 2, 1) := by decide +kernel
theorem dX9_finds1_8 : decode cX9_finds1 8 = .ok (.iload_n 2, 1) := by decide +kernel
theorem dX9_finds1_9 : decode cX9_finds1 9 = .ok (.aload_n 0, 1) := by decide +kernel
theorem dX9_finds1_10 : decode cX9_finds1 10 = .ok (.getfield 141, 3) := by decide +kernel
theorem dX9_finds1_13 : decode cX9_finds1 13 = .ok (.if_icmp .ge 30, 3) := by decide +kernel
theorem dX9_finds1_16 : decode cX9_finds1 16 = .ok (.iload_n 1, 1) := by decide +kernel
theorem dX9_finds1_17 : decode cX9_finds1 17 = .ok (.aload_n 0, 1) := by decide +kernel
theorem dX9_finds1_18 : decode cX9_finds1 18 = .ok (.aload_n 0, 1) := by decide +kernel
theorem dX9_finds1_19 : decode cX9_finds1 19 = .ok (.getfield 23, 3) := by decide +kernel
theorem dX9_finds1_22 : decode cX9_finds1 22 = .ok (.iload_n 2, 1) := by decide +kernel
theorem dX9_finds1_23 : decode cX9_finds1 23 = .ok (.iaload, 1) := by decide +kernel
theorem dX9_finds1_24 : decode cX9_finds1 24 = .ok (.invokevirtual 177, 3) := by decide +kernel
theorem dX9_finds1_27 : decode cX9_finds1 27 = .ok (.ifCond .eq 7, 3) := by decide +kernel
theorem dX9_finds1_30 : decode cX9_finds1 30 = .ok (.iconst 1, 1) := by decide +kernel
theorem dX9_finds1_31 : decode cX9_finds1 31 = .ok (.goto 4, 3) := by decide +kernel
theorem dX9_finds1_34 : decode cX9_finds1 34 = .ok (.iconst 0, 1) := by decide +kernel
theorem dX9_finds1_35 : decode cX9_finds1 35 = .ok (.iadd, 1) := by decide +kernel
theorem dX9_finds1_36 : decode cX9_finds1 36 = .ok (.istore_n 1, 1) := by decide +kernel
theorem dX9_finds1_37 : decode cX9_finds1 37 = .ok (.iinc 2 1, 3) := by decide +kernel
theorem dX9_finds1_40 : decode cX9_finds1 40 = .ok (.goto (-32), 3) := by decide +kernel
theorem dX9_finds1_43 : decode cX9_finds1 43 = .ok (.iload_n 1, 1) := by decide +kernel
theorem dX9_finds1_44 : decode cX9_finds1 44 = .ok (.ireturn, 1) := by decide +kernel
theorem dX9_finds_0 : decode cX9_finds 0 = .ok (.aload_n 0, 1) := by decide +kernel
theorem dX9_finds_1 : decode cX9_finds 1 = .ok (.aload_n 0, 1) := by decide +kernel
theorem dX9_finds_2 : decode cX9_finds 2 = .ok (.invokevirtual 79, 3) := by decide +kernel
theorem dX9_finds_5 : decode cX9_finds 5 = .ok (.ifCond .eq 7, 3) := by decide +kernel
theorem dX9_finds_8 : decode cX9_finds 8 = .ok (.iconst 0, 1) := by decide +kernel
theorem dX9_finds_9 : decode cX9_finds 9 = .ok (.goto 4, 3) := by decide +kernel
theorem dX9_finds_12 : decode cX9_finds 12 = .ok (.iconst 1, 1) := by decide +kernel
theorem dX9_finds_13 : decode cX9_finds 13 = .ok (.putfield 36, 3) := by decide +kernel
theorem dX9_finds_16 : decode cX9_finds 16 = .ok (.aload_n 0, 1) := by decide +kernel
theorem dX9_finds_17 : decode cX9_finds 17 = .ok (.getfield 36, 3) := by decide +kernel
theorem dX9_finds_20 : decode cX9_finds 20 = .ok (.ifCond .ne 10, 3) := by decide +kernel
theorem dX9_finds_23 : decode cX9_finds 23 = .ok (.aload_n 0, 1) := by decide +kernel
theorem dX9_finds_24 : decode cX9_finds 24 = .ok (.invokevirtual 180, 3) := by decide +kernel
theorem dX9_finds_27 : decode cX9_finds 27 = .ok (.goto 4, 3) := by decide +kernel
theorem dX9_finds_30 : decode cX9_finds 30 = .ok (.iconst 0, 1) := by decide +kernel
theorem dX9_finds_31 : decode cX9_finds 31 = .ok (.ireturn, 1) := by decide +kernel
theorem dX9_findsAgain_0 : decode cX9_findsAgain 0 = .ok (.aload_n 0, 1) := by decide +kernel
theorem dX9_findsAgain_1 : decode cX9_findsAgain 1 = .ok (.invokevirtual 183, 3) := by decide +kernel
theorem dX9_findsAgain_4 : decode cX9_findsAgain 4 = .ok (.ireturn, 1) := by decide +kernel
theorem dX9_firstFind_0 : decode cX9_firstFind 0 = .ok (.aload_n 0, 1) := by decide +kernel
theorem dX9_firstFind_1 : decode cX9_firstFind 1 = .ok (.aload_n 0, 1) := by decide +kernel
theorem dX9_firstFind_2 : decode cX9_firstFind 2 = .ok (.invokevirtual 79, 3) := by decide +kernel
theorem dX9_firstFind_5 : decode cX9_firstFind 5 = .ok (.ifCond .ne 7, 3) := by decide +kernel
theorem dX9_firstFind_8 : decode cX9_firstFind 8 = .ok (.iconst 1, 1) := by decide +kernel
theorem dX9_firstFind_9 : decode cX9_firstFind 9 = .ok (.goto 15, 3) := by decide +kernel
theorem dX9_firstFind_12 : decode cX9_firstFind 12 = .ok (.aload_n 0, 1) := by decide +kernel
theorem dX9_firstFind_13 : decode cX9_firstFind 13 = .ok (.invokevirtual 180, 3) := by decide +kernel
theorem dX9_firstFind_16 : decode cX9_firstFind 16 = .ok (.ifCond .ne 7, 3) := by decide +kernel
theorem dX9_firstFind_19 : decode cX9_firstFind 19 = .ok (.iconst 2, 1) := by decide +kernel
theorem dX9_firstFind_20 : decode cX9_firstFind 20 = .ok (.goto 4, 3) := by decide +kernel
theorem dX9_firstFind_23 : decode cX9_firstFind 23 = .ok (.iconst 0, 1) := by decide +kernel
theorem dX9_firstFind_24 : decode cX9_firstFind 24 = .ok (.putfield 36, 3) := by decide +kernel
theorem dX9_firstFind_27 : decode cX9_firstFind 27 = .ok (.aload_n 0, 1) := by decide +kernel
theorem dX9_firstFind_28 : decode cX9_firstFind 28 = .ok (.getfield 36, 3) := by decide +kernel
theorem dX9_firstFind_31 : decode cX9_firstFind 31 = .ok (.ifCond .eq 5, 3) := by decide +kernel
theorem dX9_firstFind_34 : decode cX9_firstFind 34 = .ok (.iconst 0, 1) := by decide +kernel
theorem dX9_firstFind_35 : decode cX9_firstFind 35 = .ok (.ireturn, 1) := by decide +kernel
theorem dX9_firstFind_36 : decode cX9_firstFind 36 = .ok (.iconst 0, 1) := by decide +kernel
theorem dX9_firstFind_37 : decode cX9_firstFind 37 = .ok (.istore_n 1, 1) := by decide +kernel
theorem dX9_firstFind_38 : decode cX9_firstFind 38 = .ok (.aload_n 0, 1) := by decide +kernel
theorem dX9_firstFind_39 : decode cX9_firstFind 39 = .ok (.aload_n 0, 1) := by decide +kernel
theorem dX9_firstFind_40 : decode cX9_firstFind 40 = .ok (.getfield 23, 3) := by decide +kernel
theorem dX9_firstFind_43 : decode cX9_firstFind 43 = .ok (.iload_n 1, 1) := by decide +kernel
theorem dX9_firstFind_44 : decode cX9_firstFind 44 = .ok (.iaload, 1) := by decide +kernel
theorem dX9_firstFind_45 : decode cX9_firstFind 45 = .ok (.invokevirtual 177, 3) := by decide +kernel
theorem dX9_firstFind_48 : decode cX9_firstFind 48 = .ok (.ifCond .ne 9, 3) := by decide +kernel
theorem dX9_firstFind_51 : decode cX9_firstFind 51 = .ok (.iinc 1 1, 3) := by decide +kernel
theorem dX9_firstFind_54 : decode cX9_firstFind 54 = .ok (.goto (-16), 3) := by decide +kernel
theorem dX9_firstFind_57 : decode cX9_firstFind 57 = .ok (.iload_n 1, 1) := by decide +kernel
theorem dX9_firstFind_58 : decode cX9_firstFind 58 = .ok (.ireturn, 1) := by decide +kernel
theorem dX9_isLine_0 : decode cX9_isLine 0 = .ok (.aload_n 0, 1) := by decide +kernel
theorem dX9_isLine_1 : decode cX9_isLine 1 = .ok (.aload_n 0, 1) := by decide +kernel
theorem dX9_isLine_2 : decode cX9_isLine 2 = .ok (.invokevirtual 79, 3) := by decide +kernel
theorem dX9_isLine_5 : decode cX9_isLine 5 = .ok (.ifCond .eq 7, 3) := by decide +kernel
theorem dX9_isLine_8 : decode cX9_isLine 8 = .ok (.iconst 0, 1) := by decide +kernel
theorem dX9_isLine_9 : decode cX9_isLine 9 = .ok (.goto 4, 3) := by decide +kernel
theorem dX9_isLine_12 : decode cX9_isLine 12 = .ok (.iconst 1, 1) := by decide +kernel
theorem dX9_isLine_13 : decode cX9_isLine 13 = .ok (.putfield 36, 3) := by decide +kernel
theorem dX9_isLine_16 : decode cX9_isLine 16 = .ok (.iconst 0, 1) := by decide +kernel
theorem dX9_isLine_17 : decode cX9_isLine 17 = .ok (.istore_n 1, 1) := by decide +kernel
theorem dX9_isLine_18 : decode cX9_isLine 18 = .ok (.iload_n 1, 1) := by decide +kernel
theorem dX9_isLine_19 : decode cX9_isLine 19 = .ok (.aload_n 0, 1) := by decide +kernel
theorem dX9_isLine_20 : decode cX9_isLine 20 = .ok (.invokevirtual 53, 3) := by decide +kernel
theorem dX9_isLine_23 : decode cX9_isLine 23 = .ok (.if_icmp .ge 41, 3) := by decide +kernel
theorem dX9_isLine_26 : decode cX9_isLine 26 = .ok (.aload_n 0, 1) := by decide +kernel
theorem dX9_isLine_27 : decode cX9_isLine 27 = .ok (.getfield 36, 3) := by decide +kernel
theorem dX9_isLine_30 : decode cX9_isLine 30 = .ok (.ifCond .ne 34, 3) := by decide +kernel
theorem dX9_isLine_33 : decode cX9_isLine 33 = .ok (.aload_n 0, 1) := by decide +kernel
theorem dX9_isLine_34 : decode cX9_isLine 34 = .ok (.iload_n 1, 1) := by decide +kernel
theorem dX9_isLine_35 : decode cX9_isLine 35 = .ok (.invokevirtual 61, 3) := by decide +kernel
theorem dX9_isLine_38 : decode cX9_isLine 38 = .ok (.aload_n 0, 1) := by decide +kernel
theorem dX9_isLine_39 : decode cX9_isLine 39 = .ok (.getfield 72, 3) := by decide +kernel
theorem dX9_isLine_42 : decode cX9_isLine 42 = .ok (.if_icmp .ne 16, 3) := by decide +kernel
theorem dX9_isLine_45 : decode cX9_isLine 45 = .ok (.aload_n 0, 1) := by decide +kernel
theorem dX9_isLine_46 : decode cX9_isLine 46 = .ok (.bipush 10, 2) := by decide +kernel
theorem dX9_isLine_48 : decode cX9_isLine 48 = .ok (.iload_n 1, 1) := by decide +kernel
theorem dX9_isLine_49 : decode cX9_isLine 49 = .ok (.imul, 1) := by decide +kernel
theorem dX9_isLine_50 : decode cX9_isLine 50 = .ok (.invokevirtual 177, 3) := by decide +kernel
theorem dX9_isLine_53 : decode cX9_isLine 53 = .ok (.ifCond .eq 5, 3) := by decide +kernel
theorem dX9_isLine_56 : decode cX9_isLine 56 = .ok (.iconst 1, 1) := by decide +kernel
theorem dX9_isLine_57 : decode cX9_isLine 57 = .ok (.ireturn, 1) := by decide +kernel
theorem dX9_isLine_58 : decode cX9_isLine 58 = .ok (.iinc 1 1, 3) := by decide +kernel
theorem dX9_isLine_61 : decode cX9_isLine 61 = .ok (.goto (-43), 3) := by decide +kernel
theorem dX9_isLine_64 : decode cX9_isLine 64 = .ok (.iconst 0, 1) := by decide +kernel
theorem dX9_isLine_65 : decode cX9_isLine 65 = .ok (.ireturn, 1) := by decide +kernel
theorem dX9_shared_0 : decode cX9_shared 0 = .ok (.aload_n 0, 1) := by decide +kernel
theorem dX9_shared_1 : decode cX9_shared 1 = .ok (.aload_n 0, 1) := by decide +kernel
theorem dX9_shared_2 : decode cX9_shared 2 = .ok (.iload_n 1, 1) := by decide +kernel
theorem dX9_shared_3 : decode cX9_shared 3 = .ok (.invokevirtual 57, 3) := by decide +kernel
theorem dX9_shared_6 : decode cX9_shared 6 = .ok (.ifCond .eq 15, 3) := by decide +kernel
theorem dX9_shared_9 : decode cX9_shared 9 = .ok (.aload_n 0, 1) := by decide +kernel
theorem dX9_shared_10 : decode cX9_shared 10 = .ok (.iload_n 2, 1) := by decide +kernel
theorem dX9_shared_11 : decode cX9_shared 11 = .ok (.invokevirtual 57, 3) := by decide +kernel
theorem dX9_shared_14 : decode cX9_shared 14 = .ok (.ifCond .eq 7, 3) := by decide +kernel
theorem dX9_shared_17 : decode cX9_shared 17 = .ok (.iconst 0, 1) := by decide +kernel
theorem dX9_shared_18 : decode cX9_shared 18 = .ok (.goto 4, 3) := by decide +kernel
theorem dX9_shared_21 : decode cX9_shared 21 = .ok (.iconst 1, 1) := by decide +kernel
theorem dX9_shared_22 : decode cX9_shared 22 = .ok (.putfield 36, 3) := by decide +kernel
theorem dX9_shared_25 : decode cX9_shared 25 = .ok (.aload_n 0, 1) := by decide +kernel
theorem dX9_shared_26 : decode cX9_shared 26 = .ok (.getfield 36, 3) := by decide +kernel
theorem dX9_shared_29 : decode cX9_shared 29 = .ok (.ifCond .eq 7, 3) := by decide +kernel
theorem dX9_shared_32 : decode cX9_shared 32 = .ok (.iconst 0, 1) := by decide +kernel
theorem dX9_shared_33 : decode cX9_shared 33 = .ok (.goto 22, 3) := by decide +kernel
theorem dX9_shared_36 : decode cX9_shared 36 = .ok (.iload_n 1, 1) := by decide +kernel
theorem dX9_shared_37 : decode cX9_shared 37 = .ok (.iload_n 2, 1) := by decide +kernel
theorem dX9_shared_38 : decode cX9_shared 38 = .ok (.if_icmp .ne 11, 3) := by decide +kernel
theorem dX9_shared_41 : decode cX9_shared 41 = .ok (.aload_n 0, 1) := by decide +kernel
theorem dX9_shared_42 : decode cX9_shared 42 = .ok (.iload_n 1, 1) := by decide +kernel
theorem dX9_shared_43 : decode cX9_shared 43 = .ok (.invokevirtual 61, 3) := by decide +kernel
theorem dX9_shared_46 : decode cX9_shared 46 = .ok (.goto 9, 3) := by decide +kernel
theorem dX9_shared_49 : decode cX9_shared 49 = .ok (.aload_n 0, 1) := by decide +kernel
theorem dX9_shared_50 : decode cX9_shared 50 = .ok (.iload_n 1, 1) := by decide +kernel
theorem dX9_shared_51 : decode cX9_shared 51 = .ok (.iload_n 2, 1) := by decide +kernel
theorem dX9_shared_52 : decode cX9_shared 52 = .ok (.invokevirtual 162, 3) := by decide +kernel
theorem dX9_shared_55 : decode cX9_shared 55 = .ok (.ireturn, 1) := by decide +kernel
theorem dX9_aloneFrom_0 : decode cX9_aloneFrom 0 = .ok (.iconst 0, 1) := by decide +kernel
theorem dX9_aloneFrom_1 : decode cX9_aloneFrom 1 = .ok (.istore_n 3, 1) := by decide +kernel
theorem dX9_aloneFrom_2 : decode cX9_aloneFrom 2 = .ok (.iconst 0, 1) := by decide +kernel
theorem dX9_aloneFrom_3 : decode cX9_aloneFrom 3 = .ok (.istore 4, 2) := by decide +kernel
theorem dX9_aloneFrom_5 : decode cX9_aloneFrom 5 = .ok (.iload 4, 2) := by decide +kernel
theorem dX9_aloneFrom_7 : decode cX9_aloneFrom 7 = .ok (.aload_n 0, 1) := by decide +kernel
theorem dX9_aloneFrom_8 : decode cX9_aloneFrom 8 = .ok (.invokevirtual 53, 3) := by decide +kernel
theorem dX9_aloneFrom_11 : decode cX9_aloneFrom 11 = .ok (.if_icmp .ge 68, 3) := by decide +kernel
theorem dX9_aloneFrom_14 : decode cX9_aloneFrom 14 = .ok (.iconst 0, 1) := by decide +kernel
theorem dX9_aloneFrom_15 : decode cX9_aloneFrom 15 = .ok (.istore 5, 2) := by decide +kernel
theorem dX9_aloneFrom_17 : decode cX9_aloneFrom 17 = .ok (.iload 5, 2) := by decide +kernel
theorem dX9_aloneFrom_19 : decode cX9_aloneFrom 19 = .ok (.aload_n 0, 1) := by decide +kernel
theorem dX9_aloneFrom_20 : decode cX9_aloneFrom 20 = .ok (.iload 4, 2) := by decide +kernel
theorem dX9_aloneFrom_22 : decode cX9_aloneFrom 22 = .ok (.invokevirtual 61, 3) := by decide +kernel
theorem dX9_aloneFrom_25 : decode cX9_aloneFrom 25 = .ok (.if_icmp .ge 48, 3) := by decide +kernel
theorem dX9_aloneFrom_28 : decode cX9_aloneFrom 28 = .ok (.iload 4, 2) := by decide +kernel
theorem dX9_aloneFrom_30 : decode cX9_aloneFrom 30 = .ok (.iload_n 1, 1) := by decide +kernel
theorem dX9_aloneFrom_31 : decode cX9_aloneFrom 31 = .ok (.if_icmp .eq 42, 3) := by decide +kernel
theorem dX9_aloneFrom_34 : decode cX9_aloneFrom 34 = .ok (.aload_n 0, 1) := by decide +kernel
theorem dX9_aloneFrom_35 : decode cX9_aloneFrom 35 = .ok (.bipush 10, 2) := by decide +kernel
theorem dX9_aloneFrom_37 : decode cX9_aloneFrom 37 = .ok (.iload_n 1, 1) := by decide +kernel
theorem dX9_aloneFrom_38 : decode cX9_aloneFrom 38 = .ok (.imul, 1) := by decide +kernel
theorem dX9_aloneFrom_39 : decode cX9_aloneFrom 39 = .ok (.iload_n 2, 1) := by decide +kernel
theorem dX9_aloneFrom_40 : decode cX9_aloneFrom 40 = .ok (.iadd, 1) := by decide +kernel
theorem dX9_aloneFrom_41 : decode cX9_aloneFrom 41 = .ok (.bipush 10, 2) := by decide +kernel
theorem dX9_aloneFrom_43 : decode cX9_aloneFrom 43 = .ok (.iload 4, 2) := by decide +kernel
theorem dX9_aloneFrom_45 : decode cX9_aloneFrom 45 = .ok (.imul, 1) := by decide +kernel
theorem dX9_aloneFrom_46 : decode cX9_aloneFrom 46 = .ok (.iload 5, 2) := by decide +kernel
theorem dX9_aloneFrom_48 : decode cX9_aloneFrom 48 = .ok (.iadd, 1) := by decide +kernel
theorem dX9_aloneFrom_49 : decode cX9_aloneFrom 49 = .ok (.invokevirtual 138, 3) := by decide +kernel
theorem dX9_aloneFrom_52 : decode cX9_aloneFrom 52 = .ok (.istore 6, 2) := by decide +kernel
theorem dX9_aloneFrom_54 : decode cX9_aloneFrom 54 = .ok (.iload 6, 2) := by decide +kernel
theorem dX9_aloneFrom_56 : decode cX9_aloneFrom 56 = .ok (.iload_n 3, 1) := by decide +kernel
theorem dX9_aloneFrom_57 : decode cX9_aloneFrom 57 = .ok (.if_icmp .le 8, 3) := by decide +kernel
theorem dX9_aloneFrom_60 : decode cX9_aloneFrom 60 = .ok (.iload 6, 2) := by decide +kernel
theorem dX9_aloneFrom_62 : decode cX9_aloneFrom 62 = .ok (.goto 4, 3) := by decide +kernel
theorem dX9_aloneFrom_65 : decode cX9_aloneFrom 65 = .ok (.iload_n 3, 1) := by decide +kernel
theorem dX9_aloneFrom_66 : decode cX9_aloneFrom 66 = .ok (.istore_n 3, 1) := by decide +kernel
theorem dX9_aloneFrom_67 : decode cX9_aloneFrom 67 = .ok (.iinc 5 1, 3) := by decide +kernel
theorem dX9_aloneFrom_70 : decode cX9_aloneFrom 70 = .ok (.goto (-53), 3) := by decide +kernel
theorem dX9_aloneFrom_73 : decode cX9_aloneFrom 73 = .ok (.iinc 4 1, 3) := by decide +kernel
theorem dX9_aloneFrom_76 : decode cX9_aloneFrom 76 = .ok (.goto (-71), 3) := by decide +kernel
theorem dX9_aloneFrom_79 : decode cX9_aloneFrom 79 = .ok (.iload_n 3, 1) := by decide +kernel
theorem dX9_aloneFrom_80 : decode cX9_aloneFrom 80 = .ok (.aload_n 0, 1) := by decide +kernel
theorem dX9_aloneFrom_81 : decode cX9_aloneFrom 81 = .ok (.iload_n 1, 1) := by decide +kernel
theorem dX9_aloneFrom_82 : decode cX9_aloneFrom 82 = .ok (.invokevirtual 61, 3) := by decide +kernel
theorem dX9_aloneFrom_85 : decode cX9_aloneFrom 85 = .ok (.iload_n 2, 1) := by decide +kernel
theorem dX9_aloneFrom_86 : decode cX9_aloneFrom 86 = .ok (.isub, 1) := by decide +kernel
theorem dX9_aloneFrom_87 : decode cX9_aloneFrom 87 = .ok (.if_icmp .ge 9, 3) := by decide +kernel
theorem dX9_aloneFrom_90 : decode cX9_aloneFrom 90 = .ok (.iload_n 3, 1) := by decide +kernel
theorem dX9_aloneFrom_91 : decode cX9_aloneFrom 91 = .ok (.iconst 1, 1) := by decide +kernel
theorem dX9_aloneFrom_92 : decode cX9_aloneFrom 92 = .ok (.iadd, 1) := by decide +kernel
theorem dX9_aloneFrom_93 : decode cX9_aloneFrom 93 = .ok (.goto 4, 3) := by decide +kernel
theorem dX9_aloneFrom_96 : decode cX9_aloneFrom 96 = .ok (.iconst (-1), 1) := by decide +kernel
theorem dX9_aloneFrom_97 : decode cX9_aloneFrom 97 = .ok (.ireturn, 1) := by decide +kernel
theorem dX9_aloneOf_0 : decode cX9_aloneOf 0 = .ok (.iconst (-1), 1) := by decide +kernel
theorem dX9_aloneOf_1 : decode cX9_aloneOf 1 = .ok (.istore_n 3, 1) := by decide +kernel
theorem dX9_aloneOf_2 : decode cX9_aloneOf 2 = .ok (.iconst (-1), 1) := by decide +kernel
theorem dX9_aloneOf_3 : decode cX9_aloneOf 3 = .ok (.istore 4, 2) := by decide +kernel
theorem dX9_aloneOf_5 : decode cX9_aloneOf 5 = .ok (.iconst 0, 1) := by decide +kernel
theorem dX9_aloneOf_6 : decode cX9_aloneOf 6 = .ok (.istore 5, 2) := by decide +kernel
theorem dX9_aloneOf_8 : decode cX9_aloneOf 8 = .ok (.iload 5, 2) := by decide +kernel
theorem dX9_aloneOf_10 : decode cX9_aloneOf 10 = .ok (.aload_n 0, 1) := by decide +kernel
theorem dX9_aloneOf_11 : decode cX9_aloneOf 11 = .ok (.iload_n 1, 1) := by decide +kernel
theorem dX9_aloneOf_12 : decode cX9_aloneOf 12 = .ok (.invokevirtual 61, 3) := by decide +kernel
theorem dX9_aloneOf_15 : decode cX9_aloneOf 15 = .ok (.if_icmp .ge 45, 3) := by decide +kernel
theorem dX9_aloneOf_18 : decode cX9_aloneOf 18 = .ok (.aload_n 0, 1) := by decide +kernel
theorem dX9_aloneOf_19 : decode cX9_aloneOf 19 = .ok (.iload_n 1, 1) := by decide +kernel
theorem dX9_aloneOf_20 : decode cX9_aloneOf 20 = .ok (.iload 5, 2) := by decide +kernel
theorem dX9_aloneOf_22 : decode cX9_aloneOf 22 = .ok (.invokevirtual 186, 3) := by decide +kernel
theorem dX9_aloneOf_25 : decode cX9_aloneOf 25 = .ok (.istore 6, 2) := by decide +kernel
theorem dX9_aloneOf_27 : decode cX9_aloneOf 27 = .ok (.iload 6, 2) := by decide +kernel
theorem dX9_aloneOf_29 : decode cX9_aloneOf 29 = .ok (.iconst (-1), 1) := by decide +kernel
theorem dX9_aloneOf_30 : decode cX9_aloneOf 30 = .ok (.if_icmp .eq 24, 3) := by decide +kernel
theorem dX9_aloneOf_33 : decode cX9_aloneOf 33 = .ok (.iload_n 3, 1) := by decide +kernel
theorem dX9_aloneOf_34 : decode cX9_aloneOf 34 = .ok (.iconst (-1), 1) := by decide +kernel
theorem dX9_aloneOf_35 : decode cX9_aloneOf 35 = .ok (.if_icmp .eq 12, 3) := by decide +kernel
theorem dX9_aloneOf_38 : decode cX9_aloneOf 38 = .ok (.iload 6, 2) := by decide +kernel
theorem dX9_aloneOf_40 : decode cX9_aloneOf 40 = .ok (.iload_n 3, 1) := by decide +kernel
theorem dX9_aloneOf_41 : decode cX9_aloneOf 41 = .ok (.if_icmp .lt 6, 3) := by decide +kernel
theorem dX9_aloneOf_44 : decode cX9_aloneOf 44 = .ok (.goto 10, 3) := by decide +kernel
theorem dX9_aloneOf_47 : decode cX9_aloneOf 47 = .ok (.iload 6, 2) := by decide +kernel
theorem dX9_aloneOf_49 : decode cX9_aloneOf 49 = .ok (.istore_n 3, 1) := by decide +kernel
theorem dX9_aloneOf_50 : decode cX9_aloneOf 50 = .ok (.iload 5, 2) := by decide +kernel
theorem dX9_aloneOf_52 : decode cX9_aloneOf 52 = .ok (.istore 4, 2) := by decide +kernel
theorem dX9_aloneOf_54 : decode cX9_aloneOf 54 = .ok (.iinc 5 1, 3) := by decide +kernel
theorem dX9_aloneOf_57 : decode cX9_aloneOf 57 = .ok (.goto (-49), 3) := by decide +kernel
theorem dX9_aloneOf_60 : decode cX9_aloneOf 60 = .ok (.iload_n 2, 1) := by decide +kernel
theorem dX9_aloneOf_61 : decode cX9_aloneOf 61 = .ok (.ifCond .eq 8, 3) := by decide +kernel
theorem dX9_aloneOf_64 : decode cX9_aloneOf 64 = .ok (.iload 4, 2) := by decide +kernel
theorem dX9_aloneOf_66 : decode cX9_aloneOf 66 = .ok (.goto 4, 3) := by decide +kernel
theorem dX9_aloneOf_69 : decode cX9_aloneOf 69 = .ok (.iload_n 3, 1) := by decide +kernel
theorem dX9_aloneOf_70 : decode cX9_aloneOf 70 = .ok (.ireturn, 1) := by decide +kernel
theorem dX9_aloneAsked_0 : decode cX9_aloneAsked 0 = .ok (.aload_n 0, 1) := by decide +kernel
theorem dX9_aloneAsked_1 : decode cX9_aloneAsked 1 = .ok (.aload_n 0, 1) := by decide +kernel
theorem dX9_aloneAsked_2 : decode cX9_aloneAsked 2 = .ok (.iload_n 1, 1) := by decide +kernel
theorem dX9_aloneAsked_3 : decode cX9_aloneAsked 3 = .ok (.invokevirtual 57, 3) := by decide +kernel
theorem dX9_aloneAsked_6 : decode cX9_aloneAsked 6 = .ok (.ifCond .ne 7, 3) := by decide +kernel
theorem dX9_aloneAsked_9 : decode cX9_aloneAsked 9 = .ok (.iconst 1, 1) := by decide +kernel
theorem dX9_aloneAsked_10 : decode cX9_aloneAsked 10 = .ok (.goto 18, 3) := by decide +kernel
theorem dX9_aloneAsked_13 : decode cX9_aloneAsked 13 = .ok (.aload_n 0, 1) := by decide +kernel
theorem dX9_aloneAsked_14 : decode cX9_aloneAsked 14 = .ok (.iload_n 1, 1) := by decide +kernel
theorem dX9_aloneAsked_15 : decode cX9_aloneAsked 15 = .ok (.iload_n 2, 1) := by decide +kernel
theorem dX9_aloneAsked_16 : decode cX9_aloneAsked 16 = .ok (.invokevirtual 189, 3) := by decide +kernel
theorem dX9_aloneAsked_19 : decode cX9_aloneAsked 19 = .ok (.iconst (-1), 1) := by decide +kernel
theorem dX9_aloneAsked_20 : decode cX9_aloneAsked 20 = .ok (.if_icmp .ne 7, 3) := by decide +kernel
theorem dX9_aloneAsked_23 : decode cX9_aloneAsked 23 = .ok (.iconst 2, 1) := by decide +kernel
theorem dX9_aloneAsked_24 : decode cX9_aloneAsked 24 = .ok (.goto 4, 3) := by decide +kernel
theorem dX9_aloneAsked_27 : decode cX9_aloneAsked 27 = .ok (.iconst 0, 1) := by decide +kernel
theorem dX9_aloneAsked_28 : decode cX9_aloneAsked 28 = .ok (.putfield 36, 3) := by decide +kernel
theorem dX9_aloneAsked_31 : decode cX9_aloneAsked 31 = .ok (.aload_n 0, 1) := by decide +kernel
theorem dX9_aloneAsked_32 : decode cX9_aloneAsked 32 = .ok (.getfield 36, 3) := by decide +kernel
theorem dX9_aloneAsked_35 : decode cX9_aloneAsked 35 = .ok (.ifCond .ne 12, 3) := by decide +kernel
theorem dX9_aloneAsked_38 : decode cX9_aloneAsked 38 = .ok (.aload_n 0, 1) := by decide +kernel
theorem dX9_aloneAsked_39 : decode cX9_aloneAsked 39 = .ok (.iload_n 1, 1) := by decide +kernel
theorem dX9_aloneAsked_40 : decode cX9_aloneAsked 40 = .ok (.iload_n 2, 1) := by decide +kernel
theorem dX9_aloneAsked_41 : decode cX9_aloneAsked 41 = .ok (.invokevirtual 189, 3) := by decide +kernel
theorem dX9_aloneAsked_44 : decode cX9_aloneAsked 44 = .ok (.goto 4, 3) := by decide +kernel
theorem dX9_aloneAsked_47 : decode cX9_aloneAsked 47 = .ok (.iconst 0, 1) := by decide +kernel
theorem dX9_aloneAsked_48 : decode cX9_aloneAsked 48 = .ok (.ireturn, 1) := by decide +kernel
theorem dX9_alone_0 : decode cX9_alone 0 = .ok (.aload_n 0, 1) := by decide +kernel
theorem dX9_alone_1 : decode cX9_alone 1 = .ok (.iload_n 1, 1) := by decide +kernel
theorem dX9_alone_2 : decode cX9_alone 2 = .ok (.iconst 0, 1) := by decide +kernel
theorem dX9_alone_3 : decode cX9_alone 3 = .ok (.invokevirtual 193, 3) := by decide +kernel
theorem dX9_alone_6 : decode cX9_alone 6 = .ok (.ireturn, 1) := by decide +kernel
theorem dX9_alonePlace_0 : decode cX9_alonePlace 0 = .ok (.aload_n 0, 1) := by decide +kernel
theorem dX9_alonePlace_1 : decode cX9_alonePlace 1 = .ok (.iload_n 1, 1) := by decide +kernel
theorem dX9_alonePlace_2 : decode cX9_alonePlace 2 = .ok (.iconst 1, 1) := by decide +kernel
theorem dX9_alonePlace_3 : decode cX9_alonePlace 3 = .ok (.invokevirtual 193, 3) := by decide +kernel
theorem dX9_alonePlace_6 : decode cX9_alonePlace 6 = .ok (.ireturn, 1) := by decide +kernel
theorem dX9_isTurned_0 : decode cX9_isTurned 0 = .ok (.aload_n 0, 1) := by decide +kernel
theorem dX9_isTurned_1 : decode cX9_isTurned 1 = .ok (.aload_n 0, 1) := by decide +kernel
theorem dX9_isTurned_2 : decode cX9_isTurned 2 = .ok (.iload_n 1, 1) := by decide +kernel
theorem dX9_isTurned_3 : decode cX9_isTurned 3 = .ok (.invokevirtual 57, 3) := by decide +kernel
theorem dX9_isTurned_6 : decode cX9_isTurned 6 = .ok (.ifCond .eq 15, 3) := by decide +kernel
theorem dX9_isTurned_9 : decode cX9_isTurned 9 = .ok (.aload_n 0, 1) := by decide +kernel
theorem dX9_isTurned_10 : decode cX9_isTurned 10 = .ok (.iload_n 2, 1) := by decide +kernel
theorem dX9_isTurned_11 : decode cX9_isTurned 11 = .ok (.invokevirtual 57, 3) := by decide +kernel
theorem dX9_isTurned_14 : decode cX9_isTurned 14 = .ok (.ifCond .eq 7, 3) := by decide +kernel
theorem dX9_isTurned_17 : decode cX9_isTurned 17 = .ok (.iconst 0, 1) := by decide +kernel
theorem dX9_isTurned_18 : decode cX9_isTurned 18 = .ok (.goto 4, 3) := by decide +kernel
theorem dX9_isTurned_21 : decode cX9_isTurned 21 = .ok (.iconst 1, 1) := by decide +kernel
theorem dX9_isTurned_22 : decode cX9_isTurned 22 = .ok (.putfield 36, 3) := by decide +kernel
theorem dX9_isTurned_25 : decode cX9_isTurned 25 = .ok (.aload_n 0, 1) := by decide +kernel
theorem dX9_isTurned_26 : decode cX9_isTurned 26 = .ok (.getfield 36, 3) := by decide +kernel
theorem dX9_isTurned_29 : decode cX9_isTurned 29 = .ok (.ifCond .ne 16, 3) := by decide +kernel
theorem dX9_isTurned_32 : decode cX9_isTurned 32 = .ok (.aload_n 0, 1) := by decide +kernel
theorem dX9_isTurned_33 : decode cX9_isTurned 33 = .ok (.iload_n 1, 1) := by decide +kernel
theorem dX9_isTurned_34 : decode cX9_isTurned 34 = .ok (.iload_n 2, 1) := by decide +kernel
theorem dX9_isTurned_35 : decode cX9_isTurned 35 = .ok (.invokevirtual 126, 3) := by decide +kernel
theorem dX9_isTurned_38 : decode cX9_isTurned 38 = .ok (.ifCond .eq 7, 3) := by decide +kernel
theorem dX9_isTurned_41 : decode cX9_isTurned 41 = .ok (.iconst 1, 1) := by decide +kernel
theorem dX9_isTurned_42 : decode cX9_isTurned 42 = .ok (.goto 4, 3) := by decide +kernel
theorem dX9_isTurned_45 : decode cX9_isTurned 45 = .ok (.iconst 0, 1) := by decide +kernel
theorem dX9_isTurned_46 : decode cX9_isTurned 46 = .ok (.ireturn, 1) := by decide +kernel
theorem dX9_sign_0 : decode cX9_sign 0 = .ok (.aload_n 0, 1) := by decide +kernel
theorem dX9_sign_1 : decode cX9_sign 1 = .ok (.getfield 196, 3) := by decide +kernel
theorem dX9_sign_4 : decode cX9_sign 4 = .ok (.aload_n 0, 1) := by decide +kernel
theorem dX9_sign_5 : decode cX9_sign 5 = .ok (.getfield 69, 3) := by decide +kernel
theorem dX9_sign_8 : decode cX9_sign 8 = .ok (.if_icmp .ge 15, 3) := by decide +kernel
theorem dX9_sign_11 : decode cX9_sign 11 = .ok (.aload_n 0, 1) := by decide +kernel
theorem dX9_sign_12 : decode cX9_sign 12 = .ok (.getfield 16, 3) := by decide +kernel
theorem dX9_sign_15 : decode cX9_sign 15 = .ok (.aload_n 0, 1) := by decide +kernel
theorem dX9_sign_16 : decode cX9_sign 16 = .ok (.getfield 196, 3) := by decide +kernel
theorem dX9_sign_19 : decode cX9_sign 19 = .ok (.caload, 1) := by decide +kernel
theorem dX9_sign_20 : decode cX9_sign 20 = .ok (.goto 4, 3) := by decide +kernel
theorem dX9_sign_23 : decode cX9_sign 23 = .ok (.iconst (-1), 1) := by decide +kernel
theorem dX9_sign_24 : decode cX9_sign 24 = .ok (.ireturn, 1) := by decide +kernel
theorem dX9_digit_0 : decode cX9_digit 0 = .ok (.aload_n 0, 1) := by decide +kernel
theorem dX9_digit_1 : decode cX9_digit 1 = .ok (.getfield 199, 3) := by decide +kernel
theorem dX9_digit_4 : decode cX9_digit 4 = .ok (.ifCond .lt 5, 3) := by decide +kernel
theorem dX9_digit_7 : decode cX9_digit 7 = .ok (.iconst 0, 1) := by decide +kernel
theorem dX9_digit_8 : decode cX9_digit 8 = .ok (.ireturn, 1) := by decide +kernel
theorem dX9_digit_9 : decode cX9_digit 9 = .ok (.aload_n 0, 1) := by decide +kernel
theorem dX9_digit_10 : decode cX9_digit 10 = .ok (.invokevirtual 202, 3) := by decide +kernel
theorem dX9_digit_13 : decode cX9_digit 13 = .ok (.bipush 48, 2) := by decide +kernel
theorem dX9_digit_15 : decode cX9_digit 15 = .ok (.bipush 57, 2) := by decide +kernel
theorem dX9_digit_17 : decode cX9_digit 17 = .ok (.invokestatic 49, 3) := by decide +kernel
theorem dX9_digit_20 : decode cX9_digit 20 = .ok (.ifCond .ne 13, 3) := by decide +kernel
theorem dX9_digit_23 : decode cX9_digit 23 = .ok (.aload_n 0, 1) := by decide +kernel
theorem dX9_digit_24 : decode cX9_digit 24 = .ok (.aload_n 0, 1) := by decide +kernel
theorem dX9_digit_25 : decode cX9_digit 25 = .ok (.getfield 196, 3) := by decide +kernel
theorem dX9_digit_28 : decode cX9_digit 28 = .ok (.putfield 199, 3) := by decide +kernel
theorem dX9_digit_31 : decode cX9_digit 31 = .ok (.iconst 0, 1) := by decide +kernel
theorem dX9_digit_32 : decode cX9_digit 32 = .ok (.ireturn, 1) := by decide +kernel
theorem dX9_digit_33 : decode cX9_digit 33 = .ok (.aload_n 0, 1) := by decide +kernel
theorem dX9_digit_34 : decode cX9_digit 34 = .ok (.dup, 1) := by decide +kernel
theorem dX9_digit_35 : decode cX9_digit 35 = .ok (.getfield 196, 3) := by decide +kernel
theorem dX9_digit_38 : decode cX9_digit 38 = .ok (.iconst 1, 1) := by decide +kernel
theorem dX9_digit_39 : decode cX9_digit 39 = .ok (.iadd, 1) := by decide +kernel
theorem dX9_digit_40 : decode cX9_digit 40 = .ok (.putfield 196, 3) := by decide +kernel
theorem dX9_digit_43 : decode cX9_digit 43 = .ok (.aload_n 0, 1) := by decide +kernel
theorem dX9_digit_44 : decode cX9_digit 44 = .ok (.getfield 16, 3) := by decide +kernel
theorem dX9_digit_47 : decode cX9_digit 47 = .ok (.aload_n 0, 1) := by decide +kernel
theorem dX9_digit_48 : decode cX9_digit 48 = .ok (.getfield 196, 3) := by decide +kernel
theorem dX9_digit_51 : decode cX9_digit 51 = .ok (.iconst 1, 1) := by decide +kernel
theorem dX9_digit_52 : decode cX9_digit 52 = .ok (.isub, 1) := by decide +kernel
theorem dX9_digit_53 : decode cX9_digit 53 = .ok (.caload, 1) := by decide +kernel
theorem dX9_digit_54 : decode cX9_digit 54 = .ok (.bipush 48, 2) := by decide +kernel
theorem dX9_digit_56 : decode cX9_digit 56 = .ok (.isub, 1) := by decide +kernel
theorem dX9_digit_57 : decode cX9_digit 57 = .ok (.ireturn, 1) := by decide +kernel
theorem dX9_letters_0 : decode cX9_letters 0 = .ok (.iconst 0, 1) := by decide +kernel
theorem dX9_letters_1 : decode cX9_letters 1 = .ok (.istore_n 2, 1) := by decide +kernel
theorem dX9_letters_2 : decode cX9_letters 2 = .ok (.aload_n 0, 1) := by decide +kernel
theorem dX9_letters_3 : decode cX9_letters 3 = .ok (.getfield 199, 3) := by decide +kernel
theorem dX9_letters_6 : decode cX9_letters 6 = .ok (.ifCond .ge 38, 3) := by decide +kernel
theorem dX9_letters_9 : decode cX9_letters 9 = .ok (.iload_n 2, 1) := by decide +kernel
theorem dX9_letters_10 : decode cX9_letters 10 = .ok (.iload_n 1, 1) := by decide +kernel
theorem dX9_letters_11 : decode cX9_letters 11 = .ok (.if_icmp .ge 33, 3) := by decide +kernel
theorem dX9_letters_14 : decode cX9_letters 14 = .ok (.aload_n 0, 1) := by decide +kernel
theorem dX9_letters_15 : decode cX9_letters 15 = .ok (.invokevirtual 202, 3) := by decide +kernel
theorem dX9_letters_18 : decode cX9_letters 18 = .ok (.bipush 97, 2) := by decide +kernel
theorem dX9_letters_20 : decode cX9_letters 20 = .ok (.bipush 122, 2) := by decide +kernel
theorem dX9_letters_22 : decode cX9_letters 22 = .ok (.invokestatic 49, 3) := by decide +kernel
theorem dX9_letters_25 : decode cX9_letters 25 = .ok (.ifCond .eq 19, 3) := by decide +kernel
theorem dX9_letters_28 : decode cX9_letters 28 = .ok (.aload_n 0, 1) := by decide +kernel
theorem dX9_letters_29 : decode cX9_letters 29 = .ok (.dup, 1) := by decide +kernel
theorem dX9_letters_30 : decode cX9_letters 30 = .ok (.getfield 196, 3) := by decide +kernel
theorem dX9_letters_33 : decode cX9_letters 33 = .ok (.iconst 1, 1) := by decide +kernel
theorem dX9_letters_34 : decode cX9_letters 34 = .ok (.iadd, 1) := by decide +kernel
theorem dX9_letters_35 : decode cX9_letters 35 = .ok (.putfield 196, 3) := by decide +kernel
theorem dX9_letters_38 : decode cX9_letters 38 = .ok (.iinc 2 1, 3) := by decide +kernel
theorem dX9_letters_41 : decode cX9_letters 41 = .ok (.goto (-39), 3) := by decide +kernel
theorem dX9_letters_44 : decode cX9_letters 44 = .ok (.aload_n 0, 1) := by decide +kernel
theorem dX9_letters_45 : decode cX9_letters 45 = .ok (.getfield 199, 3) := by decide +kernel
theorem dX9_letters_48 : decode cX9_letters 48 = .ok (.ifCond .ge 15, 3) := by decide +kernel
theorem dX9_letters_51 : decode cX9_letters 51 = .ok (.iload_n 2, 1) := by decide +kernel
theorem dX9_letters_52 : decode cX9_letters 52 = .ok (.ifCond .ne 11, 3) := by decide +kernel
theorem dX9_letters_55 : decode cX9_letters 55 = .ok (.aload_n 0, 1) := by decide +kernel
theorem dX9_letters_56 : decode cX9_letters 56 = .ok (.aload_n 0, 1) := by decide +kernel
theorem dX9_letters_57 : decode cX9_letters 57 = .ok (.getfield 196, 3) := by decide +kernel
theorem dX9_letters_60 : decode cX9_letters 60 = .ok (.putfield 199, 3) := by decide +kernel
theorem dX9_letters_63 : decode cX9_letters 63 = .ok (.iload_n 2, 1) := by decide +kernel
theorem dX9_letters_64 : decode cX9_letters 64 = .ok (.ireturn, 1) := by decide +kernel
theorem dX9_command_0 : decode cX9_command 0 = .ok (.iconst 4, 1) := by decide +kernel
theorem dX9_command_1 : decode cX9_command 1 = .ok (.aload_n 0, 1) := by decide +kernel
theorem dX9_command_2 : decode cX9_command 2 = .ok (.getfield 205, 3) := by decide +kernel
theorem dX9_command_5 : decode cX9_command 5 = .ok (.imul, 1) := by decide +kernel
theorem dX9_command_6 : decode cX9_command 6 = .ok (.istore_n 1, 1) := by decide +kernel
theorem dX9_command_7 : decode cX9_command 7 = .ok (.aload_n 0, 1) := by decide +kernel
theorem dX9_command_8 : decode cX9_command 8 = .ok (.dup, 1) := by decide +kernel
theorem dX9_command_9 : decode cX9_command 9 = .ok (.getfield 205, 3) := by decide +kernel
theorem dX9_command_12 : decode cX9_command 12 = .ok (.iconst 1, 1) := by decide +kernel
theorem dX9_command_13 : decode cX9_command 13 = .ok (.iadd, 1) := by decide +kernel
theorem dX9_command_14 : decode cX9_command 14 = .ok (.putfield 205, 3) := by decide +kernel
theorem dX9_command_17 : decode cX9_command 17 = .ok (.aload_n 0, 1) := by decide +kernel
theorem dX9_command_18 : decode cX9_command 18 = .ok (.invokevirtual 202, 3) := by decide +kernel
theorem dX9_command_21 : decode cX9_command 21 = .ok (.istore_n 2, 1) := by decide +kernel
theorem dX9_command_22 : decode cX9_command 22 = .ok (.iconst 0, 1) := by decide +kernel
theorem dX9_command_23 : decode cX9_command 23 = .ok (.istore_n 3, 1) := by decide +kernel
theorem dX9_command_24 : decode cX9_command 24 = .ok (.iload_n 3, 1) := by decide +kernel
theorem dX9_command_25 : decode cX9_command 25 = .ok (.iconst 4, 1) := by decide +kernel
theorem dX9_command_26 : decode cX9_command 26 = .ok (.if_icmp .ge 18, 3) := by decide +kernel
theorem dX9_command_29 : decode cX9_command 29 = .ok (.aload_n 0, 1) := by decide +kernel
theorem dX9_command_30 : decode cX9_command 30 = .ok (.getfield 30, 3) := by decide +kernel
theorem dX9_command_33 : decode cX9_command 33 = .ok (.iload_n 1, 1) := by decide +kernel
theorem dX9_command_34 : decode cX9_command 34 = .ok (.iload_n 3, 1) := by decide +kernel
theorem dX9_command_35 : decode cX9_command 35 = .ok (.iadd, 1) := by decide +kernel
theorem dX9_command_36 : decode cX9_command 36 = .ok (.iconst 0, 1) := by decide +kernel
theorem dX9_command_37 : decode cX9_command 37 = .ok (.iastore, 1) := by decide +kernel
theorem dX9_command_38 : decode cX9_command 38 = .ok (.iinc 3 1, 3) := by decide +kernel
theorem dX9_command_41 : decode cX9_command 41 = .ok (.goto (-17), 3) := by decide +kernel
theorem dX9_command_44 : decode cX9_command 44 = .ok (.aload_n 0, 1) := by decide +kernel
theorem dX9_command_45 : decode cX9_command 45 = .ok (.getfield 30, 3) := by decide +kernel
theorem dX9_command_48 : decode cX9_command 48 = .ok (.iload_n 1, 1) := by decide +kernel
theorem dX9_command_49 : decode cX9_command 49 = .ok (.iload_n 2, 1) := by decide +kernel
theorem dX9_command_50 : decode cX9_command 50 = .ok (.iastore, 1) := by decide +kernel
theorem dX9_command_51 : decode cX9_command 51 = .ok (.iload_n 2, 1) := by decide +kernel
theorem dX9_command_52 : decode cX9_command 52 = .ok (.bipush 43, 2) := by decide +kernel
theorem dX9_command_54 : decode cX9_command 54 = .ok (.if_icmp .eq 42, 3) := by decide +kernel
theorem dX9_command_57 : decode cX9_command 57 = .ok (.iload_n 2, 1) := by decide +kernel
theorem dX9_command_58 : decode cX9_command 58 = .ok (.bipush 45, 2) := by decide +kernel
theorem dX9_command_60 : decode cX9_command 60 = .ok (.if_icmp .eq 36, 3) := by decide +kernel
theorem dX9_command_63 : decode cX9_command 63 = .ok (.iload_n 2, 1) := by decide +kernel
theorem dX9_command_64 : decode cX9_command 64 = .ok (.bipush 61, 2) := by decide +kernel
theorem dX9_command_66 : decode cX9_command 66 = .ok (.if_icmp .eq 30, 3) := by decide +kernel
theorem dX9_command_69 : decode cX9_command 69 = .ok (.iload_n 2, 1) := by decide +kernel
theorem dX9_command_70 : decode cX9_command 70 = .ok (.bipush 120, 2) := by decide +kernel
theorem dX9_command_72 : decode cX9_command 72 = .ok (.if_icmp .eq 24, 3) := by decide +kernel
theorem dX9_command_75 : decode cX9_command 75 = .ok (.iload_n 2, 1) := by decide +kernel
theorem dX9_command_76 : decode cX9_command 76 = .ok (.bipush 106, 2) := by decide +kernel
theorem dX9_command_78 : decode cX9_command 78 = .ok (.if_icmp .eq 18, 3) := by decide +kernel
theorem dX9_command_81 : decode cX9_command 81 = .ok (.iload_n 2, 1) := by decide +kernel
theorem dX9_command_82 : decode cX9_command 82 = .ok (.bipush 116, 2) := by decide +kernel
theorem dX9_command_84 : decode cX9_command 84 = .ok (.if_icmp .eq 12, 3) := by decide +kernel
theorem dX9_command_87 : decode cX9_command 87 = .ok (.aload_n 0, 1) := by decide +kernel
theorem dX9_command_88 : decode cX9_command 88 = .ok (.aload_n 0, 1) := by decide +kernel
theorem dX9_command_89 : decode cX9_command 89 = .ok (.getfield 196, 3) := by decide +kernel
theorem dX9_command_92 : decode cX9_command 92 = .ok (.putfield 199, 3) := by decide +kernel
theorem dX9_command_95 : decode cX9_command 95 = .ok (.return_, 1) := by decide +kernel
theorem dX9_command_96 : decode cX9_command 96 = .ok (.aload_n 0, 1) := by decide +kernel
theorem dX9_command_97 : decode cX9_command 97 = .ok (.dup, 1) := by decide +kernel
theorem dX9_command_98 : decode cX9_command 98 = .ok (.getfield 196, 3) := by decide +kernel
theorem dX9_command_101 : decode cX9_command 101 = .ok (.iconst 1, 1) := by decide +kernel
theorem dX9_command_102 : decode cX9_command 102 = .ok (.iadd, 1) := by decide +kernel
theorem dX9_command_103 : decode cX9_command 103 = .ok (.putfield 196, 3) := by decide +kernel
theorem dX9_command_106 : decode cX9_command 106 = .ok (.iload_n 2, 1) := by decide +kernel
theorem dX9_command_107 : decode cX9_command 107 = .ok (.bipush 43, 2) := by decide +kernel
theorem dX9_command_109 : decode cX9_command 109 = .ok (.if_icmp .ne 30, 3) := by decide +kernel
theorem dX9_command_112 : decode cX9_command 112 = .ok (.aload_n 0, 1) := by decide +kernel
theorem dX9_command_113 : decode cX9_command 113 = .ok (.getfield 30, 3) := by decide +kernel
theorem dX9_command_116 : decode cX9_command 116 = .ok (.iload_n 1, 1) := by decide +kernel
theorem dX9_command_117 : decode cX9_command 117 = .ok (.iconst 1, 1) := by decide +kernel
theorem dX9_command_118 : decode cX9_command 118 = .ok (.iadd, 1) := by decide +kernel
theorem dX9_command_119 : decode cX9_command 119 = .ok (.aload_n 0, 1) := by decide +kernel
theorem dX9_command_120 : decode cX9_command 120 = .ok (.getfield 196, 3) := by decide +kernel
theorem dX9_command_123 : decode cX9_command 123 = .ok (.iastore, 1) := by decide +kernel
theorem dX9_command_124 : decode cX9_command 124 = .ok (.aload_n 0, 1) := by decide +kernel
theorem dX9_command_125 : decode cX9_command 125 = .ok (.getfield 30, 3) := by decide +kernel
theorem dX9_command_128 : decode cX9_command 128 = .ok (.iload_n 1, 1) := by decide +kernel
theorem dX9_command_129 : decode cX9_command 129 = .ok (.iconst 2, 1) := by decide +kernel
theorem dX9_command_130 : decode cX9_command 130 = .ok (.iadd, 1) := by decide +kernel
theorem dX9_command_131 : decode cX9_command 131 = .ok (.aload_n 0, 1) := by decide +kernel
theorem dX9_command_132 : decode cX9_command 132 = .ok (.bipush 10, 2) := by decide +kernel
theorem dX9_command_134 : decode cX9_command 134 = .ok (.invokevirtual 208, 3) := by decide +kernel
theorem dX9_command_137 : decode cX9_command 137 = .ok (.iastore, 1) := by decide +kernel
theorem dX9_command_138 : decode cX9_command 138 = .ok (.return_, 1) := by decide +kernel
theorem dX9_command_139 : decode cX9_command 139 = .ok (.aload_n 0, 1) := by decide +kernel
theorem dX9_command_140 : decode cX9_command 140 = .ok (.getfield 30, 3) := by decide +kernel
theorem dX9_command_143 : decode cX9_command 143 = .ok (.iload_n 1, 1) := by decide +kernel
theorem dX9_command_144 : decode cX9_command 144 = .ok (.iconst 1, 1) := by decide +kernel
theorem dX9_command_145 : decode cX9_command 145 = .ok (.iadd, 1) := by decide +kernel
theorem dX9_command_146 : decode cX9_command 146 = .ok (.aload_n 0, 1) := by decide +kernel
theorem dX9_command_147 : decode cX9_command 147 = .ok (.invokevirtual 211, 3) := by decide +kernel
theorem dX9_command_150 : decode cX9_command 150 = .ok (.iastore, 1) := by decide +kernel
theorem dX9_command_151 : decode cX9_command 151 = .ok (.aload_n 0, 1) := by decide +kernel
theorem dX9_command_152 : decode cX9_command 152 = .ok (.getfield 30, 3) := by decide +kernel
theorem dX9_command_155 : decode cX9_command 155 = .ok (.iload_n 1, 1) := by decide +kernel
theorem dX9_command_156 : decode cX9_command 156 = .ok (.iconst 2, 1) := by decide +kernel
theorem dX9_command_157 : decode cX9_command 157 = .ok (.iadd, 1) := by decide +kernel
theorem dX9_command_158 : decode cX9_command 158 = .ok (.iload_n 2, 1) := by decide +kernel
theorem dX9_command_159 : decode cX9_command 159 = .ok (.bipush 61, 2) := by decide +kernel
theorem dX9_command_161 : decode cX9_command 161 = .ok (.if_icmp .eq 15, 3) := by decide +kernel
theorem dX9_command_164 : decode cX9_command 164 = .ok (.iload_n 2, 1) := by decide +kernel
theorem dX9_command_165 : decode cX9_command 165 = .ok (.bipush 120, 2) := by decide +kernel
theorem dX9_command_167 : decode cX9_command 167 = .ok (.if_icmp .eq 9, 3) := by decide +kernel
theorem dX9_command_170 : decode cX9_command 170 = .ok (.iload_n 2, 1) := by decide +kernel
theorem dX9_command_171 : decode cX9_command 171 = .ok (.bipush 106, 2) := by decide +kernel
theorem dX9_command_173 : decode cX9_command 173 = .ok (.if_icmp .ne 10, 3) := by decide +kernel
theorem dX9_command_176 : decode cX9_command 176 = .ok (.aload_n 0, 1) := by decide +kernel
theorem dX9_command_177 : decode cX9_command 177 = .ok (.invokevirtual 211, 3) := by decide +kernel
theorem dX9_command_180 : decode cX9_command 180 = .ok (.goto 4, 3) := by decide +kernel
theorem dX9_command_183 : decode cX9_command 183 = .ok (.iconst 0, 1) := by decide +kernel
theorem dX9_command_184 : decode cX9_command 184 = .ok (.iastore, 1) := by decide +kernel
theorem dX9_command_185 : decode cX9_command 185 = .ok (.iload_n 2, 1) := by decide +kernel
theorem dX9_command_186 : decode cX9_command 186 = .ok (.bipush 61, 2) := by decide +kernel
theorem dX9_command_188 : decode cX9_command 188 = .ok (.if_icmp .eq 4, 3) := by decide +kernel
theorem dX9_command_191 : decode cX9_command 191 = .ok (.return_, 1) := by decide +kernel
theorem dX9_command_192 : decode cX9_command 192 = .ok (.aload_n 0, 1) := by decide +kernel
theorem dX9_command_193 : decode cX9_command 193 = .ok (.iconst 1, 1) := by decide +kernel
theorem dX9_command_194 : decode cX9_command 194 = .ok (.invokevirtual 208, 3) := by decide +kernel
theorem dX9_command_197 : decode cX9_command 197 = .ok (.istore_n 3, 1) := by decide +kernel
theorem dX9_command_198 : decode cX9_command 198 = .ok (.aload_n 0, 1) := by decide +kernel
theorem dX9_command_199 : decode cX9_command 199 = .ok (.getfield 30, 3) := by decide +kernel
theorem dX9_command_202 : decode cX9_command 202 = .ok (.iload_n 1, 1) := by decide +kernel
theorem dX9_command_203 : decode cX9_command 203 = .ok (.iconst 3, 1) := by decide +kernel
theorem dX9_command_204 : decode cX9_command 204 = .ok (.iadd, 1) := by decide +kernel
theorem dX9_command_205 : decode cX9_command 205 = .ok (.iload_n 3, 1) := by decide +kernel
theorem dX9_command_206 : decode cX9_command 206 = .ok (.iconst 1, 1) := by decide +kernel
theorem dX9_command_207 : decode cX9_command 207 = .ok (.if_icmp .ne 17, 3) := by decide +kernel
theorem dX9_command_210 : decode cX9_command 210 = .ok (.aload_n 0, 1) := by decide +kernel
theorem dX9_command_211 : decode cX9_command 211 = .ok (.getfield 16, 3) := by decide +kernel
theorem dX9_command_214 : decode cX9_command 214 = .ok (.aload_n 0, 1) := by decide +kernel
theorem dX9_command_215 : decode cX9_command 215 = .ok (.getfield 196, 3) := by decide +kernel
theorem dX9_command_218 : decode cX9_command 218 = .ok (.iconst 1, 1) := by decide +kernel
theorem dX9_command_219 : decode cX9_command 219 = .ok (.isub, 1) := by decide +kernel
theorem dX9_command_220 : decode cX9_command 220 = .ok (.caload, 1) := by decide +kernel
theorem dX9_command_221 : decode cX9_command 221 = .ok (.goto 4, 3) := by decide +kernel
theorem dX9_command_224 : decode cX9_command 224 = .ok (.iconst 0, 1) := by decide +kernel
theorem dX9_command_225 : decode cX9_command 225 = .ok (.iastore, 1) := by decide +kernel
theorem dX9_command_226 : decode cX9_command 226 = .ok (.return_, 1) := by decide +kernel
theorem dX9_parse_0 : decode cX9_parse 0 = .ok (.aload_n 0, 1) := by decide +kernel
theorem dX9_parse_1 : decode cX9_parse 1 = .ok (.iconst 0, 1) := by decide +kernel
theorem dX9_parse_2 : decode cX9_parse 2 = .ok (.putfield 196, 3) := by decide +kernel
theorem dX9_parse_5 : decode cX9_parse 5 = .ok (.aload_n 0, 1) := by decide +kernel
theorem dX9_parse_6 : decode cX9_parse 6 = .ok (.iconst (-1), 1) := by decide +kernel
theorem dX9_parse_7 : decode cX9_parse 7 = .ok (.putfield 199, 3) := by decide +kernel
theorem dX9_parse_10 : decode cX9_parse 10 = .ok (.aload_n 0, 1) := by decide +kernel
theorem dX9_parse_11 : decode cX9_parse 11 = .ok (.iconst 0, 1) := by decide +kernel
theorem dX9_parse_12 : decode cX9_parse 12 = .ok (.putfield 205, 3) := by decide +kernel
theorem dX9_parse_15 : decode cX9_parse 15 = .ok (.aload_n 0, 1) := by decide +kernel
theorem dX9_parse_16 : decode cX9_parse 16 = .ok (.invokevirtual 214, 3) := by decide +kernel
theorem dX9_parse_19 : decode cX9_parse 19 = .ok (.aload_n 0, 1) := by decide +kernel
theorem dX9_parse_20 : decode cX9_parse 20 = .ok (.getfield 199, 3) := by decide +kernel
theorem dX9_parse_23 : decode cX9_parse 23 = .ok (.ifCond .ge 29, 3) := by decide +kernel
theorem dX9_parse_26 : decode cX9_parse 26 = .ok (.aload_n 0, 1) := by decide +kernel
theorem dX9_parse_27 : decode cX9_parse 27 = .ok (.invokevirtual 202, 3) := by decide +kernel
theorem dX9_parse_30 : decode cX9_parse 30 = .ok (.bipush 59, 2) := by decide +kernel
theorem dX9_parse_32 : decode cX9_parse 32 = .ok (.if_icmp .ne 20, 3) := by decide +kernel
theorem dX9_parse_35 : decode cX9_parse 35 = .ok (.aload_n 0, 1) := by decide +kernel
theorem dX9_parse_36 : decode cX9_parse 36 = .ok (.dup, 1) := by decide +kernel
theorem dX9_parse_37 : decode cX9_parse 37 = .ok (.getfield 196, 3) := by decide +kernel
theorem dX9_parse_40 : decode cX9_parse 40 = .ok (.iconst 1, 1) := by decide +kernel
theorem dX9_parse_41 : decode cX9_parse 41 = .ok (.iadd, 1) := by decide +kernel
theorem dX9_parse_42 : decode cX9_parse 42 = .ok (.putfield 196, 3) := by decide +kernel
theorem dX9_parse_45 : decode cX9_parse 45 = .ok (.aload_n 0, 1) := by decide +kernel
theorem dX9_parse_46 : decode cX9_parse 46 = .ok (.invokevirtual 214, 3) := by decide +kernel
theorem dX9_parse_49 : decode cX9_parse 49 = .ok (.goto (-30), 3) := by decide +kernel
theorem dX9_parse_52 : decode cX9_parse 52 = .ok (.aload_n 0, 1) := by decide +kernel
theorem dX9_parse_53 : decode cX9_parse 53 = .ok (.getfield 199, 3) := by decide +kernel
theorem dX9_parse_56 : decode cX9_parse 56 = .ok (.ifCond .ge 22, 3) := by decide +kernel
theorem dX9_parse_59 : decode cX9_parse 59 = .ok (.aload_n 0, 1) := by decide +kernel
theorem dX9_parse_60 : decode cX9_parse 60 = .ok (.getfield 196, 3) := by decide +kernel
theorem dX9_parse_63 : decode cX9_parse 63 = .ok (.aload_n 0, 1) := by decide +kernel
theorem dX9_parse_64 : decode cX9_parse 64 = .ok (.getfield 69, 3) := by decide +kernel
theorem dX9_parse_67 : decode cX9_parse 67 = .ok (.if_icmp .ge 11, 3) := by decide +kernel
theorem dX9_parse_70 : decode cX9_parse 70 = .ok (.aload_n 0, 1) := by decide +kernel
theorem dX9_parse_71 : decode cX9_parse 71 = .ok (.aload_n 0, 1) := by decide +kernel
theorem dX9_parse_72 : decode cX9_parse 72 = .ok (.getfield 196, 3) := by decide +kernel
theorem dX9_parse_75 : decode cX9_parse 75 = .ok (.putfield 199, 3) := by decide +kernel
theorem dX9_parse_78 : decode cX9_parse 78 = .ok (.return_, 1) := by decide +kernel
theorem dX9_addsFrom_0 : decode cX9_addsFrom 0 = .ok (.iconst 0, 1) := by decide +kernel
theorem dX9_addsFrom_1 : decode cX9_addsFrom 1 = .ok (.istore_n 3, 1) := by decide +kernel
theorem dX9_addsFrom_2 : decode cX9_addsFrom 2 = .ok (.iload_n 3, 1) := by decide +kernel
theorem dX9_addsFrom_3 : decode cX9_addsFrom 3 = .ok (.iload_n 2, 1) := by decide +kernel
theorem dX9_addsFrom_4 : decode cX9_addsFrom 4 = .ok (.if_icmp .ge 23, 3) := by decide +kernel
theorem dX9_addsFrom_7 : decode cX9_addsFrom 7 = .ok (.aload_n 0, 1) := by decide +kernel
theorem dX9_addsFrom_8 : decode cX9_addsFrom 8 = .ok (.getfield 20, 3) := by decide +kernel
theorem dX9_addsFrom_11 : decode cX9_addsFrom 11 = .ok (.iload_n 3, 1) := by decide +kernel
theorem dX9_addsFrom_12 : decode cX9_addsFrom 12 = .ok (.aload_n 0, 1) := by decide +kernel
theorem dX9_addsFrom_13 : decode cX9_addsFrom 13 = .ok (.getfield 16, 3) := by decide +kernel
theorem dX9_addsFrom_16 : decode cX9_addsFrom 16 = .ok (.iload_n 1, 1) := by decide +kernel
theorem dX9_addsFrom_17 : decode cX9_addsFrom 17 = .ok (.iload_n 3, 1) := by decide +kernel
theorem dX9_addsFrom_18 : decode cX9_addsFrom 18 = .ok (.iadd, 1) := by decide +kernel
theorem dX9_addsFrom_19 : decode cX9_addsFrom 19 = .ok (.caload, 1) := by decide +kernel
theorem dX9_addsFrom_20 : decode cX9_addsFrom 20 = .ok (.iastore, 1) := by decide +kernel
theorem dX9_addsFrom_21 : decode cX9_addsFrom 21 = .ok (.iinc 3 1, 3) := by decide +kernel
theorem dX9_addsFrom_24 : decode cX9_addsFrom 24 = .ok (.goto (-22), 3) := by decide +kernel
theorem dX9_addsFrom_27 : decode cX9_addsFrom 27 = .ok (.aload_n 0, 1) := by decide +kernel
theorem dX9_addsFrom_28 : decode cX9_addsFrom 28 = .ok (.iload_n 2, 1) := by decide +kernel
theorem dX9_addsFrom_29 : decode cX9_addsFrom 29 = .ok (.putfield 72, 3) := by decide +kernel
theorem dX9_addsFrom_32 : decode cX9_addsFrom 32 = .ok (.aload_n 0, 1) := by decide +kernel
theorem dX9_addsFrom_33 : decode cX9_addsFrom 33 = .ok (.invokevirtual 86, 3) := by decide +kernel
theorem dX9_addsFrom_36 : decode cX9_addsFrom 36 = .ok (.ireturn, 1) := by decide +kernel
theorem dX9_does_0 : decode cX9_does 0 = .ok (.aload_n 0, 1) := by decide +kernel
theorem dX9_does_1 : decode cX9_does 1 = .ok (.getfield 30, 3) := by decide +kernel
theorem dX9_does_4 : decode cX9_does 4 = .ok (.iload_n 1, 1) := by decide +kernel
theorem dX9_does_5 : decode cX9_does 5 = .ok (.iconst 1, 1) := by decide +kernel
theorem dX9_does_6 : decode cX9_does 6 = .ok (.iadd, 1) := by decide +kernel
theorem dX9_does_7 : decode cX9_does 7 = .ok (.iaload, 1) := by decide +kernel
theorem dX9_does_8 : decode cX9_does 8 = .ok (.istore_n 2, 1) := by decide +kernel
theorem dX9_does_9 : decode cX9_does 9 = .ok (.aload_n 0, 1) := by decide +kernel
theorem dX9_does_10 : decode cX9_does 10 = .ok (.getfield 30, 3) := by decide +kernel
theorem dX9_does_13 : decode cX9_does 13 = .ok (.iload_n 1, 1) := by decide +kernel
theorem dX9_does_14 : decode cX9_does 14 = .ok (.iconst 2, 1) := by decide +kernel
theorem dX9_does_15 : decode cX9_does 15 = .ok (.iadd, 1) := by decide +kernel
theorem dX9_does_16 : decode cX9_does 16 = .ok (.iaload, 1) := by decide +kernel
theorem dX9_does_17 : decode cX9_does 17 = .ok (.istore_n 3, 1) := by decide +kernel
theorem dX9_does_18 : decode cX9_does 18 = .ok (.aload_n 0, 1) := by decide +kernel
theorem dX9_does_19 : decode cX9_does 19 = .ok (.getfield 30, 3) := by decide +kernel
theorem dX9_does_22 : decode cX9_does 22 = .ok (.iload_n 1, 1) := by decide +kernel
theorem dX9_does_23 : decode cX9_does 23 = .ok (.iaload, 1) := by decide +kernel
theorem dX9_does_24 : decode cX9_does 24 = .ok (.lookupswitch 94 #[(43, 52), (45, 59), (61, 65), (106, 87), (120, 80)], 52) := by decide +kernel
theorem dX9_does_76 : decode cX9_does 76 = .ok (.aload_n 0, 1) := by decide +kernel
theorem dX9_does_77 : decode cX9_does 77 = .ok (.iload_n 2, 1) := by decide +kernel
theorem dX9_does_78 : decode cX9_does 78 = .ok (.iload_n 3, 1) := by decide +kernel
theorem dX9_does_79 : decode cX9_does 79 = .ok (.invokevirtual 217, 3) := by decide +kernel
theorem dX9_does_82 : decode cX9_does 82 = .ok (.ireturn, 1) := by decide +kernel
theorem dX9_does_83 : decode cX9_does 83 = .ok (.aload_n 0, 1) := by decide +kernel
theorem dX9_does_84 : decode cX9_does 84 = .ok (.iload_n 2, 1) := by decide +kernel
theorem dX9_does_85 : decode cX9_does 85 = .ok (.invokevirtual 100, 3) := by decide +kernel
theorem dX9_does_88 : decode cX9_does 88 = .ok (.ireturn, 1) := by decide +kernel
theorem dX9_does_89 : decode cX9_does 89 = .ok (.aload_n 0, 1) := by decide +kernel
theorem dX9_does_90 : decode cX9_does 90 = .ok (.iload_n 2, 1) := by decide +kernel
theorem dX9_does_91 : decode cX9_does 91 = .ok (.iload_n 3, 1) := by decide +kernel
theorem dX9_does_92 : decode cX9_does 92 = .ok (.aload_n 0, 1) := by decide +kernel
theorem dX9_does_93 : decode cX9_does 93 = .ok (.getfield 30, 3) := by decide +kernel
theorem dX9_does_96 : decode cX9_does 96 = .ok (.iload_n 1, 1) := by decide +kernel
theorem dX9_does_97 : decode cX9_does 97 = .ok (.iconst 3, 1) := by decide +kernel
theorem dX9_does_98 : decode cX9_does 98 = .ok (.iadd, 1) := by decide +kernel
theorem dX9_does_99 : decode cX9_does 99 = .ok (.iaload, 1) := by decide +kernel
theorem dX9_does_100 : decode cX9_does 100 = .ok (.invokevirtual 114, 3) := by decide +kernel
theorem dX9_does_103 : decode cX9_does 103 = .ok (.ireturn, 1) := by decide +kernel
theorem dX9_does_104 : decode cX9_does 104 = .ok (.aload_n 0, 1) := by decide +kernel
theorem dX9_does_105 : decode cX9_does 105 = .ok (.iload_n 2, 1) := by decide +kernel
theorem dX9_does_106 : decode cX9_does 106 = .ok (.iload_n 3, 1) := by decide +kernel
theorem dX9_does_107 : decode cX9_does 107 = .ok (.invokevirtual 120, 3) := by decide +kernel
theorem dX9_does_110 : decode cX9_does 110 = .ok (.ireturn, 1) := by decide +kernel
theorem dX9_does_111 : decode cX9_does 111 = .ok (.aload_n 0, 1) := by decide +kernel
theorem dX9_does_112 : decode cX9_does 112 = .ok (.iload_n 2, 1) := by decide +kernel
theorem dX9_does_113 : decode cX9_does 113 = .ok (.iload_n 3, 1) := by decide +kernel
theorem dX9_does_114 : decode cX9_does 114 = .ok (.invokevirtual 123, 3) := by decide +kernel
theorem dX9_does_117 : decode cX9_does 117 = .ok (.ireturn, 1) := by decide +kernel
theorem dX9_does_118 : decode cX9_does 118 = .ok (.aload_n 0, 1) := by decide +kernel
theorem dX9_does_119 : decode cX9_does 119 = .ok (.iload_n 2, 1) := by decide +kernel
theorem dX9_does_120 : decode cX9_does 120 = .ok (.invokevirtual 129, 3) := by decide +kernel
theorem dX9_does_123 : decode cX9_does 123 = .ok (.ireturn, 1) := by decide +kernel
theorem dX9_commands_0 : decode cX9_commands 0 = .ok (.aload_n 0, 1) := by decide +kernel
theorem dX9_commands_1 : decode cX9_commands 1 = .ok (.invokevirtual 220, 3) := by decide +kernel
theorem dX9_commands_4 : decode cX9_commands 4 = .ok (.aload_n 0, 1) := by decide +kernel
theorem dX9_commands_5 : decode cX9_commands 5 = .ok (.iconst 0, 1) := by decide +kernel
theorem dX9_commands_6 : decode cX9_commands 6 = .ok (.putfield 69, 3) := by decide +kernel
theorem dX9_commands_9 : decode cX9_commands 9 = .ok (.aload_n 0, 1) := by decide +kernel
theorem dX9_commands_10 : decode cX9_commands 10 = .ok (.aload_n 0, 1) := by decide +kernel
theorem dX9_commands_11 : decode cX9_commands 11 = .ok (.getfield 199, 3) := by decide +kernel
theorem dX9_commands_14 : decode cX9_commands 14 = .ok (.putfield 26, 3) := by decide +kernel
theorem dX9_commands_17 : decode cX9_commands 17 = .ok (.aload_n 0, 1) := by decide +kernel
theorem dX9_commands_18 : decode cX9_commands 18 = .ok (.getfield 199, 3) := by decide +kernel
theorem dX9_commands_21 : decode cX9_commands 21 = .ok (.ifCond .lt 10, 3) := by decide +kernel
theorem dX9_commands_24 : decode cX9_commands 24 = .ok (.aload_n 0, 1) := by decide +kernel
theorem dX9_commands_25 : decode cX9_commands 25 = .ok (.iconst 1, 1) := by decide +kernel
theorem dX9_commands_26 : decode cX9_commands 26 = .ok (.putfield 36, 3) := by decide +kernel
theorem dX9_commands_29 : decode cX9_commands 29 = .ok (.iconst 0, 1) := by decide +kernel
theorem dX9_commands_30 : decode cX9_commands 30 = .ok (.ireturn, 1) := by decide +kernel
theorem dX9_commands_31 : decode cX9_commands 31 = .ok (.aload_n 0, 1) := by decide +kernel
theorem dX9_commands_32 : decode cX9_commands 32 = .ok (.invokevirtual 83, 3) := by decide +kernel
theorem dX9_commands_35 : decode cX9_commands 35 = .ok (.iconst 0, 1) := by decide +kernel
theorem dX9_commands_36 : decode cX9_commands 36 = .ok (.istore_n 1, 1) := by decide +kernel
theorem dX9_commands_37 : decode cX9_commands 37 = .ok (.iload_n 1, 1) := by decide +kernel
theorem dX9_commands_38 : decode cX9_commands 38 = .ok (.aload_n 0, 1) := by decide +kernel
theorem dX9_commands_39 : decode cX9_commands 39 = .ok (.getfield 205, 3) := by decide +kernel
theorem dX9_commands_42 : decode cX9_commands 42 = .ok (.if_icmp .ge 19, 3) := by decide +kernel
theorem dX9_commands_45 : decode cX9_commands 45 = .ok (.aload_n 0, 1) := by decide +kernel
theorem dX9_commands_46 : decode cX9_commands 46 = .ok (.iconst 4, 1) := by decide +kernel
theorem dX9_commands_47 : decode cX9_commands 47 = .ok (.iload_n 1, 1) := by decide +kernel
theorem dX9_commands_48 : decode cX9_commands 48 = .ok (.imul, 1) := by decide +kernel
theorem dX9_commands_49 : decode cX9_commands 49 = .ok (.invokevirtual 223, 3) := by decide +kernel
theorem dX9_commands_52 : decode cX9_commands 52 = .ok (.ifCond .eq 9, 3) := by decide +kernel
theorem dX9_commands_55 : decode cX9_commands 55 = .ok (.iinc 1 1, 3) := by decide +kernel
theorem dX9_commands_58 : decode cX9_commands 58 = .ok (.goto (-21), 3) := by decide +kernel
theorem dX9_commands_61 : decode cX9_commands 61 = .ok (.iload_n 1, 1) := by decide +kernel
theorem dX9_commands_62 : decode cX9_commands 62 = .ok (.aload_n 0, 1) := by decide +kernel
theorem dX9_commands_63 : decode cX9_commands 63 = .ok (.getfield 205, 3) := by decide +kernel
theorem dX9_commands_66 : decode cX9_commands 66 = .ok (.if_icmp .ge 45, 3) := by decide +kernel
theorem dX9_commands_69 : decode cX9_commands 69 = .ok (.iconst 5, 1) := by decide +kernel
theorem dX9_commands_70 : decode cX9_commands 70 = .ok (.istore_n 2, 1) := by decide +kernel
theorem dX9_commands_71 : decode cX9_commands 71 = .ok (.iload_n 2, 1) := by decide +kernel
theorem dX9_commands_72 : decode cX9_commands 72 = .ok (.iconst 1, 1) := by decide +kernel
theorem dX9_commands_73 : decode cX9_commands 73 = .ok (.if_icmp .le 23, 3) := by decide +kernel
theorem dX9_commands_76 : decode cX9_commands 76 = .ok (.aload_n 0, 1) := by decide +kernel
theorem dX9_commands_77 : decode cX9_commands 77 = .ok (.getfield 13, 3) := by decide +kernel
theorem dX9_commands_80 : decode cX9_commands 80 = .ok (.iload_n 2, 1) := by decide +kernel
theorem dX9_commands_81 : decode cX9_commands 81 = .ok (.aload_n 0, 1) := by decide +kernel
theorem dX9_commands_82 : decode cX9_commands 82 = .ok (.getfield 13, 3) := by decide +kernel
theorem dX9_commands_85 : decode cX9_commands 85 = .ok (.iload_n 2, 1) := by decide +kernel
theorem dX9_commands_86 : decode cX9_commands 86 = .ok (.iconst 2, 1) := by decide +kernel
theorem dX9_commands_87 : decode cX9_commands 87 = .ok (.isub, 1) := by decide +kernel
theorem dX9_commands_88 : decode cX9_commands 88 = .ok (.iaload, 1) := by decide +kernel
theorem dX9_commands_89 : decode cX9_commands 89 = .ok (.iastore, 1) := by decide +kernel
theorem dX9_commands_90 : decode cX9_commands 90 = .ok (.iinc 2 (-1), 3) := by decide +kernel
theorem dX9_commands_93 : decode cX9_commands 93 = .ok (.goto (-22), 3) := by decide +kernel
theorem dX9_commands_96 : decode cX9_commands 96 = .ok (.aload_n 0, 1) := by decide +kernel
theorem dX9_commands_97 : decode cX9_commands 97 = .ok (.getfield 13, 3) := by decide +kernel
theorem dX9_commands_100 : decode cX9_commands 100 = .ok (.iconst 0, 1) := by decide +kernel
theorem dX9_commands_101 : decode cX9_commands 101 = .ok (.bipush 10, 2) := by decide +kernel
theorem dX9_commands_103 : decode cX9_commands 103 = .ok (.iastore, 1) := by decide +kernel
theorem dX9_commands_104 : decode cX9_commands 104 = .ok (.aload_n 0, 1) := by decide +kernel
theorem dX9_commands_105 : decode cX9_commands 105 = .ok (.getfield 13, 3) := by decide +kernel
theorem dX9_commands_108 : decode cX9_commands 108 = .ok (.iconst 1, 1) := by decide +kernel
theorem dX9_commands_109 : decode cX9_commands 109 = .ok (.iload_n 1, 1) := by decide +kernel
theorem dX9_commands_110 : decode cX9_commands 110 = .ok (.iastore, 1) := by decide +kernel
theorem dX9_commands_111 : decode cX9_commands 111 = .ok (.aload_n 0, 1) := by decide +kernel
theorem dX9_commands_112 : decode cX9_commands 112 = .ok (.aload_n 0, 1) := by decide +kernel
theorem dX9_commands_113 : decode cX9_commands 113 = .ok (.getfield 205, 3) := by decide +kernel
theorem dX9_commands_116 : decode cX9_commands 116 = .ok (.putfield 46, 3) := by decide +kernel
theorem dX9_commands_119 : decode cX9_commands 119 = .ok (.aload_n 0, 1) := by decide +kernel
theorem dX9_commands_120 : decode cX9_commands 120 = .ok (.iload_n 1, 1) := by decide +kernel
theorem dX9_commands_121 : decode cX9_commands 121 = .ok (.aload_n 0, 1) := by decide +kernel
theorem dX9_commands_122 : decode cX9_commands 122 = .ok (.getfield 205, 3) := by decide +kernel
theorem dX9_commands_125 : decode cX9_commands 125 = .ok (.if_icmp .ne 7, 3) := by decide +kernel
theorem dX9_commands_128 : decode cX9_commands 128 = .ok (.iconst 1, 1) := by decide +kernel
theorem dX9_commands_129 : decode cX9_commands 129 = .ok (.goto 4, 3) := by decide +kernel
theorem dX9_commands_132 : decode cX9_commands 132 = .ok (.iconst 0, 1) := by decide +kernel
theorem dX9_commands_133 : decode cX9_commands 133 = .ok (.iconst 2, 1) := by decide +kernel
theorem dX9_commands_134 : decode cX9_commands 134 = .ok (.invokevirtual 89, 3) := by decide +kernel
theorem dX9_commands_137 : decode cX9_commands 137 = .ok (.ireturn, 1) := by decide +kernel
theorem dX9_faultPosition_0 : decode cX9_faultPosition 0 = .ok (.aload_n 0, 1) := by decide +kernel
theorem dX9_faultPosition_1 : decode cX9_faultPosition 1 = .ok (.iconst 0, 1) := by decide +kernel
theorem dX9_faultPosition_2 : decode cX9_faultPosition 2 = .ok (.putfield 36, 3) := by decide +kernel
theorem dX9_faultPosition_5 : decode cX9_faultPosition 5 = .ok (.aload_n 0, 1) := by decide +kernel
theorem dX9_faultPosition_6 : decode cX9_faultPosition 6 = .ok (.getfield 26, 3) := by decide +kernel
theorem dX9_faultPosition_9 : decode cX9_faultPosition 9 = .ok (.ireturn, 1) := by decide +kernel
theorem dX9_writes_0 : decode cX9_writes 0 = .ok (.aload_n 0, 1) := by decide +kernel
theorem dX9_writes_1 : decode cX9_writes 1 = .ok (.getfield 33, 3) := by decide +kernel
theorem dX9_writes_4 : decode cX9_writes 4 = .ok (.aload_n 0, 1) := by decide +kernel
theorem dX9_writes_5 : decode cX9_writes 5 = .ok (.getfield 226, 3) := by decide +kernel
theorem dX9_writes_8 : decode cX9_writes 8 = .ok (.iload_n 1, 1) := by decide +kernel
theorem dX9_writes_9 : decode cX9_writes 9 = .ok (.i2c, 1) := by decide +kernel
theorem dX9_writes_10 : decode cX9_writes 10 = .ok (.castore, 1) := by decide +kernel
theorem dX9_writes_11 : decode cX9_writes 11 = .ok (.aload_n 0, 1) := by decide +kernel
theorem dX9_writes_12 : decode cX9_writes 12 = .ok (.dup, 1) := by decide +kernel
theorem dX9_writes_13 : decode cX9_writes 13 = .ok (.getfield 226, 3) := by decide +kernel
theorem dX9_writes_16 : decode cX9_writes 16 = .ok (.iconst 1, 1) := by decide +kernel
theorem dX9_writes_17 : decode cX9_writes 17 = .ok (.iadd, 1) := by decide +kernel
theorem dX9_writes_18 : decode cX9_writes 18 = .ok (.putfield 226, 3) := by decide +kernel
theorem dX9_writes_21 : decode cX9_writes 21 = .ok (.return_, 1) := by decide +kernel
theorem dX9_write_0 : decode cX9_write 0 = .ok (.aload_n 0, 1) := by decide +kernel
theorem dX9_write_1 : decode cX9_write 1 = .ok (.invokevirtual 147, 3) := by decide +kernel
theorem dX9_write_4 : decode cX9_write 4 = .ok (.aload_n 0, 1) := by decide +kernel
theorem dX9_write_5 : decode cX9_write 5 = .ok (.iload_n 1, 1) := by decide +kernel
theorem dX9_write_6 : decode cX9_write 6 = .ok (.iconst 0, 1) := by decide +kernel
theorem dX9_write_7 : decode cX9_write 7 = .ok (.aload_n 0, 1) := by decide +kernel
theorem dX9_write_8 : decode cX9_write 8 = .ok (.getfield 141, 3) := by decide +kernel
theorem dX9_write_11 : decode cX9_write 11 = .ok (.iconst 1, 1) := by decide +kernel
theorem dX9_write_12 : decode cX9_write 12 = .ok (.isub, 1) := by decide +kernel
theorem dX9_write_13 : decode cX9_write 13 = .ok (.invokestatic 49, 3) := by decide +kernel
theorem dX9_write_16 : decode cX9_write 16 = .ok (.ifCond .eq 7, 3) := by decide +kernel
theorem dX9_write_19 : decode cX9_write 19 = .ok (.iconst 0, 1) := by decide +kernel
theorem dX9_write_20 : decode cX9_write 20 = .ok (.goto 4, 3) := by decide +kernel
theorem dX9_write_23 : decode cX9_write 23 = .ok (.iconst 1, 1) := by decide +kernel
theorem dX9_write_24 : decode cX9_write 24 = .ok (.putfield 36, 3) := by decide +kernel
theorem dX9_write_27 : decode cX9_write 27 = .ok (.aload_n 0, 1) := by decide +kernel
theorem dX9_write_28 : decode cX9_write 28 = .ok (.getfield 36, 3) := by decide +kernel
theorem dX9_write_31 : decode cX9_write 31 = .ok (.ifCond .eq 5, 3) := by decide +kernel
theorem dX9_write_34 : decode cX9_write 34 = .ok (.iconst 0, 1) := by decide +kernel
theorem dX9_write_35 : decode cX9_write 35 = .ok (.ireturn, 1) := by decide +kernel
theorem dX9_write_36 : decode cX9_write 36 = .ok (.aload_n 0, 1) := by decide +kernel
theorem dX9_write_37 : decode cX9_write 37 = .ok (.iconst 0, 1) := by decide +kernel
theorem dX9_write_38 : decode cX9_write 38 = .ok (.putfield 226, 3) := by decide +kernel
theorem dX9_write_41 : decode cX9_write 41 = .ok (.aload_n 0, 1) := by decide +kernel
theorem dX9_write_42 : decode cX9_write 42 = .ok (.bipush 48, 2) := by decide +kernel
theorem dX9_write_44 : decode cX9_write 44 = .ok (.aload_n 0, 1) := by decide +kernel
theorem dX9_write_45 : decode cX9_write 45 = .ok (.getfield 23, 3) := by decide +kernel
theorem dX9_write_48 : decode cX9_write 48 = .ok (.iload_n 1, 1) := by decide +kernel
theorem dX9_write_49 : decode cX9_write 49 = .ok (.iaload, 1) := by decide +kernel
theorem dX9_write_50 : decode cX9_write 50 = .ok (.bipush 10, 2) := by decide +kernel
theorem dX9_write_52 : decode cX9_write 52 = .ok (.idiv, 1) := by decide +kernel
theorem dX9_write_53 : decode cX9_write 53 = .ok (.iadd, 1) := by decide +kernel
theorem dX9_write_54 : decode cX9_write 54 = .ok (.invokevirtual 229, 3) := by decide +kernel
theorem dX9_write_57 : decode cX9_write 57 = .ok (.aload_n 0, 1) := by decide +kernel
theorem dX9_write_58 : decode cX9_write 58 = .ok (.bipush 47, 2) := by decide +kernel
theorem dX9_write_60 : decode cX9_write 60 = .ok (.invokevirtual 229, 3) := by decide +kernel
theorem dX9_write_63 : decode cX9_write 63 = .ok (.aload_n 0, 1) := by decide +kernel
theorem dX9_write_64 : decode cX9_write 64 = .ok (.bipush 48, 2) := by decide +kernel
theorem dX9_write_66 : decode cX9_write 66 = .ok (.aload_n 0, 1) := by decide +kernel
theorem dX9_write_67 : decode cX9_write 67 = .ok (.getfield 23, 3) := by decide +kernel
theorem dX9_write_70 : decode cX9_write 70 = .ok (.iload_n 1, 1) := by decide +kernel
theorem dX9_write_71 : decode cX9_write 71 = .ok (.iaload, 1) := by decide +kernel
theorem dX9_write_72 : decode cX9_write 72 = .ok (.bipush 10, 2) := by decide +kernel
theorem dX9_write_74 : decode cX9_write 74 = .ok (.irem, 1) := by decide +kernel
theorem dX9_write_75 : decode cX9_write 75 = .ok (.iadd, 1) := by decide +kernel
theorem dX9_write_76 : decode cX9_write 76 = .ok (.invokevirtual 229, 3) := by decide +kernel
theorem dX9_write_79 : decode cX9_write 79 = .ok (.aload_n 0, 1) := by decide +kernel
theorem dX9_write_80 : decode cX9_write 80 = .ok (.bipush 58, 2) := by decide +kernel
theorem dX9_write_82 : decode cX9_write 82 = .ok (.invokevirtual 229, 3) := by decide +kernel
theorem dX9_write_85 : decode cX9_write 85 = .ok (.iconst 0, 1) := by decide +kernel
theorem dX9_write_86 : decode cX9_write 86 = .ok (.istore_n 2, 1) := by decide +kernel
theorem dX9_write_87 : decode cX9_write 87 = .ok (.iload_n 2, 1) := by decide +kernel
theorem dX9_write_88 : decode cX9_write 88 = .ok (.aload_n 0, 1) := by decide +kernel
theorem dX9_write_89 : decode cX9_write 89 = .ok (.aload_n 0, 1) := by decide +kernel
theorem dX9_write_90 : decode cX9_write 90 = .ok (.getfield 23, 3) := by decide +kernel
theorem dX9_write_93 : decode cX9_write 93 = .ok (.iload_n 1, 1) := by decide +kernel
theorem dX9_write_94 : decode cX9_write 94 = .ok (.iaload, 1) := by decide +kernel
theorem dX9_write_95 : decode cX9_write 95 = .ok (.invokevirtual 132, 3) := by decide +kernel
theorem dX9_write_98 : decode cX9_write 98 = .ok (.if_icmp .ge 24, 3) := by decide +kernel
theorem dX9_write_101 : decode cX9_write 101 = .ok (.aload_n 0, 1) := by decide +kernel
theorem dX9_write_102 : decode cX9_write 102 = .ok (.aload_n 0, 1) := by decide +kernel
theorem dX9_write_103 : decode cX9_write 103 = .ok (.aload_n 0, 1) := by decide +kernel
theorem dX9_write_104 : decode cX9_write 104 = .ok (.getfield 23, 3) := by decide +kernel
theorem dX9_write_107 : decode cX9_write 107 = .ok (.iload_n 1, 1) := by decide +kernel
theorem dX9_write_108 : decode cX9_write 108 = .ok (.iaload, 1) := by decide +kernel
theorem dX9_write_109 : decode cX9_write 109 = .ok (.iload_n 2, 1) := by decide +kernel
theorem dX9_write_110 : decode cX9_write 110 = .ok (.invokevirtual 135, 3) := by decide +kernel
theorem dX9_write_113 : decode cX9_write 113 = .ok (.invokevirtual 229, 3) := by decide +kernel
theorem dX9_write_116 : decode cX9_write 116 = .ok (.iinc 2 1, 3) := by decide +kernel
theorem dX9_write_119 : decode cX9_write 119 = .ok (.goto (-32), 3) := by decide +kernel
theorem dX9_write_122 : decode cX9_write 122 = .ok (.aload_n 0, 1) := by decide +kernel
theorem dX9_write_123 : decode cX9_write 123 = .ok (.getfield 226, 3) := by decide +kernel
theorem dX9_write_126 : decode cX9_write 126 = .ok (.ireturn, 1) := by decide +kernel
theorem dX9_writeLongest_0 : decode cX9_writeLongest 0 = .ok (.aload_n 0, 1) := by decide +kernel
theorem dX9_writeLongest_1 : decode cX9_writeLongest 1 = .ok (.iconst 1, 1) := by decide +kernel
theorem dX9_writeLongest_2 : decode cX9_writeLongest 2 = .ok (.invokevirtual 171, 3) := by decide +kernel
theorem dX9_writeLongest_5 : decode cX9_writeLongest 5 = .ok (.istore_n 1, 1) := by decide +kernel
theorem dX9_writeLongest_6 : decode cX9_writeLongest 6 = .ok (.aload_n 0, 1) := by decide +kernel
theorem dX9_writeLongest_7 : decode cX9_writeLongest 7 = .ok (.iload_n 1, 1) := by decide +kernel
theorem dX9_writeLongest_8 : decode cX9_writeLongest 8 = .ok (.iconst (-1), 1) := by decide +kernel
theorem dX9_writeLongest_9 : decode cX9_writeLongest 9 = .ok (.if_icmp .ne 7, 3) := by decide +kernel
theorem dX9_writeLongest_12 : decode cX9_writeLongest 12 = .ok (.iconst 1, 1) := by decide +kernel
theorem dX9_writeLongest_13 : decode cX9_writeLongest 13 = .ok (.goto 4, 3) := by decide +kernel
theorem dX9_writeLongest_16 : decode cX9_writeLongest 16 = .ok (.iconst 0, 1) := by decide +kernel
theorem dX9_writeLongest_17 : decode cX9_writeLongest 17 = .ok (.putfield 36, 3) := by decide +kernel
theorem dX9_writeLongest_20 : decode cX9_writeLongest 20 = .ok (.aload_n 0, 1) := by decide +kernel
theorem dX9_writeLongest_21 : decode cX9_writeLongest 21 = .ok (.getfield 36, 3) := by decide +kernel
theorem dX9_writeLongest_24 : decode cX9_writeLongest 24 = .ok (.ifCond .eq 5, 3) := by decide +kernel
theorem dX9_writeLongest_27 : decode cX9_writeLongest 27 = .ok (.iconst 0, 1) := by decide +kernel
theorem dX9_writeLongest_28 : decode cX9_writeLongest 28 = .ok (.ireturn, 1) := by decide +kernel
theorem dX9_writeLongest_29 : decode cX9_writeLongest 29 = .ok (.aload_n 0, 1) := by decide +kernel
theorem dX9_writeLongest_30 : decode cX9_writeLongest 30 = .ok (.iconst 0, 1) := by decide +kernel
theorem dX9_writeLongest_31 : decode cX9_writeLongest 31 = .ok (.invokevirtual 171, 3) := by decide +kernel
theorem dX9_writeLongest_34 : decode cX9_writeLongest 34 = .ok (.istore_n 2, 1) := by decide +kernel
theorem dX9_writeLongest_35 : decode cX9_writeLongest 35 = .ok (.aload_n 0, 1) := by decide +kernel
theorem dX9_writeLongest_36 : decode cX9_writeLongest 36 = .ok (.iconst 0, 1) := by decide +kernel
theorem dX9_writeLongest_37 : decode cX9_writeLongest 37 = .ok (.putfield 226, 3) := by decide +kernel
theorem dX9_writeLongest_40 : decode cX9_writeLongest 40 = .ok (.iconst 0, 1) := by decide +kernel
theorem dX9_writeLongest_41 : decode cX9_writeLongest 41 = .ok (.istore_n 3, 1) := by decide +kernel
theorem dX9_writeLongest_42 : decode cX9_writeLongest 42 = .ok (.iload_n 3, 1) := by decide +kernel
theorem dX9_writeLongest_43 : decode cX9_writeLongest 43 = .ok (.iload_n 2, 1) := by decide +kernel
theorem dX9_writeLongest_44 : decode cX9_writeLongest 44 = .ok (.if_icmp .ge 24, 3) := by decide +kernel
theorem dX9_writeLongest_47 : decode cX9_writeLongest 47 = .ok (.aload_n 0, 1) := by decide +kernel
theorem dX9_writeLongest_48 : decode cX9_writeLongest 48 = .ok (.aload_n 0, 1) := by decide +kernel
theorem dX9_writeLongest_49 : decode cX9_writeLongest 49 = .ok (.aload_n 0, 1) := by decide +kernel
theorem dX9_writeLongest_50 : decode cX9_writeLongest 50 = .ok (.getfield 23, 3) := by decide +kernel
theorem dX9_writeLongest_53 : decode cX9_writeLongest 53 = .ok (.iload_n 1, 1) := by decide +kernel
theorem dX9_writeLongest_54 : decode cX9_writeLongest 54 = .ok (.iaload, 1) := by decide +kernel
theorem dX9_writeLongest_55 : decode cX9_writeLongest 55 = .ok (.iload_n 3, 1) := by decide +kernel
theorem dX9_writeLongest_56 : decode cX9_writeLongest 56 = .ok (.invokevirtual 135, 3) := by decide +kernel
theorem dX9_writeLongest_59 : decode cX9_writeLongest 59 = .ok (.invokevirtual 229, 3) := by decide +kernel
theorem dX9_writeLongest_62 : decode cX9_writeLongest 62 = .ok (.iinc 3 1, 3) := by decide +kernel
theorem dX9_writeLongest_65 : decode cX9_writeLongest 65 = .ok (.goto (-23), 3) := by decide +kernel
theorem dX9_writeLongest_68 : decode cX9_writeLongest 68 = .ok (.iload_n 2, 1) := by decide +kernel
theorem dX9_writeLongest_69 : decode cX9_writeLongest 69 = .ok (.ireturn, 1) := by decide +kernel
theorem dX9_character_0 : decode cX9_character 0 = .ok (.aload_n 0, 1) := by decide +kernel
theorem dX9_character_1 : decode cX9_character 1 = .ok (.iload_n 1, 1) := by decide +kernel
theorem dX9_character_2 : decode cX9_character 2 = .ok (.iconst 0, 1) := by decide +kernel
theorem dX9_character_3 : decode cX9_character 3 = .ok (.aload_n 0, 1) := by decide +kernel
theorem dX9_character_4 : decode cX9_character 4 = .ok (.getfield 226, 3) := by decide +kernel
theorem dX9_character_7 : decode cX9_character 7 = .ok (.iconst 1, 1) := by decide +kernel
theorem dX9_character_8 : decode cX9_character 8 = .ok (.isub, 1) := by decide +kernel
theorem dX9_character_9 : decode cX9_character 9 = .ok (.invokestatic 49, 3) := by decide +kernel
theorem dX9_character_12 : decode cX9_character 12 = .ok (.ifCond .eq 7, 3) := by decide +kernel
theorem dX9_character_15 : decode cX9_character 15 = .ok (.iconst 0, 1) := by decide +kernel
theorem dX9_character_16 : decode cX9_character 16 = .ok (.goto 4, 3) := by decide +kernel
theorem dX9_character_19 : decode cX9_character 19 = .ok (.iconst 1, 1) := by decide +kernel
theorem dX9_character_20 : decode cX9_character 20 = .ok (.putfield 36, 3) := by decide +kernel
theorem dX9_character_23 : decode cX9_character 23 = .ok (.aload_n 0, 1) := by decide +kernel
theorem dX9_character_24 : decode cX9_character 24 = .ok (.getfield 36, 3) := by decide +kernel
theorem dX9_character_27 : decode cX9_character 27 = .ok (.ifCond .ne 12, 3) := by decide +kernel
theorem dX9_character_30 : decode cX9_character 30 = .ok (.aload_n 0, 1) := by decide +kernel
theorem dX9_character_31 : decode cX9_character 31 = .ok (.getfield 33, 3) := by decide +kernel
theorem dX9_character_34 : decode cX9_character 34 = .ok (.iload_n 1, 1) := by decide +kernel
theorem dX9_character_35 : decode cX9_character 35 = .ok (.caload, 1) := by decide +kernel
theorem dX9_character_36 : decode cX9_character 36 = .ok (.goto 4, 3) := by decide +kernel
theorem dX9_character_39 : decode cX9_character 39 = .ok (.iconst 0, 1) := by decide +kernel
theorem dX9_character_40 : decode cX9_character 40 = .ok (.ireturn, 1) := by decide +kernel
theorem dX9_letterMany_0 : decode cX9_letterMany 0 = .ok (.iconst 0, 1) := by decide +kernel
theorem dX9_letterMany_1 : decode cX9_letterMany 1 = .ok (.istore_n 1, 1) := by decide +kernel
theorem dX9_letterMany_2 : decode cX9_letterMany 2 = .ok (.iconst 0, 1) := by decide +kernel
theorem dX9_letterMany_3 : decode cX9_letterMany 3 = .ok (.istore_n 2, 1) := by decide +kernel
theorem dX9_letterMany_4 : decode cX9_letterMany 4 = .ok (.iload_n 2, 1) := by decide +kernel
theorem dX9_letterMany_5 : decode cX9_letterMany 5 = .ok (.aload_n 0, 1) := by decide +kernel
theorem dX9_letterMany_6 : decode cX9_letterMany 6 = .ok (.invokevirtual 53, 3) := by decide +kernel
theorem dX9_letterMany_9 : decode cX9_letterMany 9 = .ok (.if_icmp .ge 17, 3) := by decide +kernel
theorem dX9_letterMany_12 : decode cX9_letterMany 12 = .ok (.iload_n 1, 1) := by decide +kernel
theorem dX9_letterMany_13 : decode cX9_letterMany 13 = .ok (.aload_n 0, 1) := by decide +kernel
theorem dX9_letterMany_14 : decode cX9_letterMany 14 = .ok (.iload_n 2, 1) := by decide +kernel
theorem dX9_letterMany_15 : decode cX9_letterMany 15 = .ok (.invokevirtual 61, 3) := by decide +kernel
theorem dX9_letterMany_18 : decode cX9_letterMany 18 = .ok (.iadd, 1) := by decide +kernel
theorem dX9_letterMany_19 : decode cX9_letterMany 19 = .ok (.istore_n 1, 1) := by decide +kernel
theorem dX9_letterMany_20 : decode cX9_letterMany 20 = .ok (.iinc 2 1, 3) := by decide +kernel
theorem dX9_letterMany_23 : decode cX9_letterMany 23 = .ok (.goto (-19), 3) := by decide +kernel
theorem dX9_letterMany_26 : decode cX9_letterMany 26 = .ok (.iload_n 1, 1) := by decide +kernel
theorem dX9_letterMany_27 : decode cX9_letterMany 27 = .ok (.ireturn, 1) := by decide +kernel
theorem dX9_meanLetters_0 : decode cX9_meanLetters 0 = .ok (.aload_n 0, 1) := by decide +kernel
theorem dX9_meanLetters_1 : decode cX9_meanLetters 1 = .ok (.aload_n 0, 1) := by decide +kernel
theorem dX9_meanLetters_2 : decode cX9_meanLetters 2 = .ok (.invokevirtual 53, 3) := by decide +kernel
theorem dX9_meanLetters_5 : decode cX9_meanLetters 5 = .ok (.ifCond .ne 7, 3) := by decide +kernel
theorem dX9_meanLetters_8 : decode cX9_meanLetters 8 = .ok (.iconst 1, 1) := by decide +kernel
theorem dX9_meanLetters_9 : decode cX9_meanLetters 9 = .ok (.goto 4, 3) := by decide +kernel
theorem dX9_meanLetters_12 : decode cX9_meanLetters 12 = .ok (.iconst 0, 1) := by decide +kernel
theorem dX9_meanLetters_13 : decode cX9_meanLetters 13 = .ok (.putfield 36, 3) := by decide +kernel
theorem dX9_meanLetters_16 : decode cX9_meanLetters 16 = .ok (.aload_n 0, 1) := by decide +kernel
theorem dX9_meanLetters_17 : decode cX9_meanLetters 17 = .ok (.getfield 36, 3) := by decide +kernel
theorem dX9_meanLetters_20 : decode cX9_meanLetters 20 = .ok (.ifCond .ne 17, 3) := by decide +kernel
theorem dX9_meanLetters_23 : decode cX9_meanLetters 23 = .ok (.aload_n 0, 1) := by decide +kernel
theorem dX9_meanLetters_24 : decode cX9_meanLetters 24 = .ok (.invokevirtual 232, 3) := by decide +kernel
theorem dX9_meanLetters_27 : decode cX9_meanLetters 27 = .ok (.i2f, 1) := by decide +kernel
theorem dX9_meanLetters_28 : decode cX9_meanLetters 28 = .ok (.aload_n 0, 1) := by decide +kernel
theorem dX9_meanLetters_29 : decode cX9_meanLetters 29 = .ok (.invokevirtual 53, 3) := by decide +kernel
theorem dX9_meanLetters_32 : decode cX9_meanLetters 32 = .ok (.i2f, 1) := by decide +kernel
theorem dX9_meanLetters_33 : decode cX9_meanLetters 33 = .ok (.fdiv, 1) := by decide +kernel
theorem dX9_meanLetters_34 : decode cX9_meanLetters 34 = .ok (.goto 4, 3) := by decide +kernel
theorem dX9_meanLetters_37 : decode cX9_meanLetters 37 = .ok (.fconst 0, 1) := by decide +kernel
theorem dX9_meanLetters_38 : decode cX9_meanLetters 38 = .ok (.freturn, 1) := by decide +kernel
theorem dX9_repeatShare_0 : decode cX9_repeatShare 0 = .ok (.aload_n 0, 1) := by decide +kernel
theorem dX9_repeatShare_1 : decode cX9_repeatShare 1 = .ok (.aload_n 0, 1) := by decide +kernel
theorem dX9_repeatShare_2 : decode cX9_repeatShare 2 = .ok (.invokevirtual 53, 3) := by decide +kernel
theorem dX9_repeatShare_5 : decode cX9_repeatShare 5 = .ok (.ifCond .ne 7, 3) := by decide +kernel
theorem dX9_repeatShare_8 : decode cX9_repeatShare 8 = .ok (.iconst 1, 1) := by decide +kernel
theorem dX9_repeatShare_9 : decode cX9_repeatShare 9 = .ok (.goto 4, 3) := by decide +kernel
theorem dX9_repeatShare_12 : decode cX9_repeatShare 12 = .ok (.iconst 0, 1) := by decide +kernel
theorem dX9_repeatShare_13 : decode cX9_repeatShare 13 = .ok (.putfield 36, 3) := by decide +kernel
theorem dX9_repeatShare_16 : decode cX9_repeatShare 16 = .ok (.aload_n 0, 1) := by decide +kernel
theorem dX9_repeatShare_17 : decode cX9_repeatShare 17 = .ok (.getfield 36, 3) := by decide +kernel
theorem dX9_repeatShare_20 : decode cX9_repeatShare 20 = .ok (.ifCond .ne 18, 3) := by decide +kernel
theorem dX9_repeatShare_23 : decode cX9_repeatShare 23 = .ok (.aload_n 0, 1) := by decide +kernel
theorem dX9_repeatShare_24 : decode cX9_repeatShare 24 = .ok (.iconst 3, 1) := by decide +kernel
theorem dX9_repeatShare_25 : decode cX9_repeatShare 25 = .ok (.invokevirtual 171, 3) := by decide +kernel
theorem dX9_repeatShare_28 : decode cX9_repeatShare 28 = .ok (.i2d, 1) := by decide +kernel
theorem dX9_repeatShare_29 : decode cX9_repeatShare 29 = .ok (.aload_n 0, 1) := by decide +kernel
theorem dX9_repeatShare_30 : decode cX9_repeatShare 30 = .ok (.invokevirtual 232, 3) := by decide +kernel
theorem dX9_repeatShare_33 : decode cX9_repeatShare 33 = .ok (.i2d, 1) := by decide +kernel
theorem dX9_repeatShare_34 : decode cX9_repeatShare 34 = .ok (.ddiv, 1) := by decide +kernel
theorem dX9_repeatShare_35 : decode cX9_repeatShare 35 = .ok (.goto 4, 3) := by decide +kernel
theorem dX9_repeatShare_38 : decode cX9_repeatShare 38 = .ok (.dconst 0, 1) := by decide +kernel
theorem dX9_repeatShare_39 : decode cX9_repeatShare 39 = .ok (.dreturn, 1) := by decide +kernel
theorem dX9_palindromes_0 : decode cX9_palindromes 0 = .ok (.iconst 0, 1) := by decide +kernel
theorem dX9_palindromes_1 : decode cX9_palindromes 1 = .ok (.istore_n 1, 1) := by decide +kernel
theorem dX9_palindromes_2 : decode cX9_palindromes 2 = .ok (.iconst 0, 1) := by decide +kernel
theorem dX9_palindromes_3 : decode cX9_palindromes 3 = .ok (.istore_n 2, 1) := by decide +kernel
theorem dX9_palindromes_4 : decode cX9_palindromes 4 = .ok (.iload_n 2, 1) := by decide +kernel
theorem dX9_palindromes_5 : decode cX9_palindromes 5 = .ok (.aload_n 0, 1) := by decide +kernel
theorem dX9_palindromes_6 : decode cX9_palindromes 6 = .ok (.invokevirtual 53, 3) := by decide +kernel
theorem dX9_palindromes_9 : decode cX9_palindromes 9 = .ok (.if_icmp .ge 26, 3) := by decide +kernel
theorem dX9_palindromes_12 : decode cX9_palindromes 12 = .ok (.iload_n 1, 1) := by decide +kernel
theorem dX9_palindromes_13 : decode cX9_palindromes 13 = .ok (.aload_n 0, 1) := by decide +kernel
theorem dX9_palindromes_14 : decode cX9_palindromes 14 = .ok (.iload_n 2, 1) := by decide +kernel
theorem dX9_palindromes_15 : decode cX9_palindromes 15 = .ok (.iload_n 2, 1) := by decide +kernel
theorem dX9_palindromes_16 : decode cX9_palindromes 16 = .ok (.invokevirtual 126, 3) := by decide +kernel
theorem dX9_palindromes_19 : decode cX9_palindromes 19 = .ok (.ifCond .eq 7, 3) := by decide +kernel
theorem dX9_palindromes_22 : decode cX9_palindromes 22 = .ok (.iconst 1, 1) := by decide +kernel
theorem dX9_palindromes_23 : decode cX9_palindromes 23 = .ok (.goto 4, 3) := by decide +kernel
theorem dX9_palindromes_26 : decode cX9_palindromes 26 = .ok (.iconst 0, 1) := by decide +kernel
theorem dX9_palindromes_27 : decode cX9_palindromes 27 = .ok (.iadd, 1) := by decide +kernel
theorem dX9_palindromes_28 : decode cX9_palindromes 28 = .ok (.istore_n 1, 1) := by decide +kernel
theorem dX9_palindromes_29 : decode cX9_palindromes 29 = .ok (.iinc 2 1, 3) := by decide +kernel
theorem dX9_palindromes_32 : decode cX9_palindromes 32 = .ok (.goto (-28), 3) := by decide +kernel
theorem dX9_palindromes_35 : decode cX9_palindromes 35 = .ok (.iload_n 1, 1) := by decide +kernel
theorem dX9_palindromes_36 : decode cX9_palindromes 36 = .ok (.ireturn, 1) := by decide +kernel
theorem dX9_account_0 : decode cX9_account 0 = .ok (.aload_n 0, 1) := by decide +kernel
theorem dX9_account_1 : decode cX9_account 1 = .ok (.iload_n 1, 1) := by decide +kernel
theorem dX9_account_2 : decode cX9_account 2 = .ok (.iconst 0, 1) := by decide +kernel
theorem dX9_account_3 : decode cX9_account 3 = .ok (.bipush 6, 2) := by decide +kernel
theorem dX9_account_5 : decode cX9_account 5 = .ok (.invokestatic 49, 3) := by decide +kernel
theorem dX9_account_8 : decode cX9_account 8 = .ok (.ifCond .eq 7, 3) := by decide +kernel
theorem dX9_account_11 : decode cX9_account 11 = .ok (.iconst 0, 1) := by decide +kernel
theorem dX9_account_12 : decode cX9_account 12 = .ok (.goto 4, 3) := by decide +kernel
theorem dX9_account_15 : decode cX9_account 15 = .ok (.iconst 1, 1) := by decide +kernel
theorem dX9_account_16 : decode cX9_account 16 = .ok (.putfield 36, 3) := by decide +kernel
theorem dX9_account_19 : decode cX9_account 19 = .ok (.aload_n 0, 1) := by decide +kernel
theorem dX9_account_20 : decode cX9_account 20 = .ok (.getfield 36, 3) := by decide +kernel
theorem dX9_account_23 : decode cX9_account 23 = .ok (.ifCond .eq 5, 3) := by decide +kernel
theorem dX9_account_26 : decode cX9_account 26 = .ok (.iconst 0, 1) := by decide +kernel
theorem dX9_account_27 : decode cX9_account 27 = .ok (.ireturn, 1) := by decide +kernel
theorem dX9_account_28 : decode cX9_account 28 = .ok (.iload_n 1, 1) := by decide +kernel
theorem dX9_account_29 : decode cX9_account 29 = .ok (.tableswitch 75 0 5 #[39, 44, 49, 59, 65, 70], 39) := by decide +kernel
theorem dX9_account_68 : decode cX9_account 68 = .ok (.aload_n 0, 1) := by decide +kernel
theorem dX9_account_69 : decode cX9_account 69 = .ok (.invokevirtual 53, 3) := by decide +kernel
theorem dX9_account_72 : decode cX9_account 72 = .ok (.ireturn, 1) := by decide +kernel
theorem dX9_account_73 : decode cX9_account 73 = .ok (.aload_n 0, 1) := by decide +kernel
theorem dX9_account_74 : decode cX9_account 74 = .ok (.invokevirtual 232, 3) := by decide +kernel
theorem dX9_account_77 : decode cX9_account 77 = .ok (.ireturn, 1) := by decide +kernel
theorem dX9_account_78 : decode cX9_account 78 = .ok (.aload_n 0, 1) := by decide +kernel
theorem dX9_account_79 : decode cX9_account 79 = .ok (.iconst 0, 1) := by decide +kernel
theorem dX9_account_80 : decode cX9_account 80 = .ok (.aload_n 0, 1) := by decide +kernel
theorem dX9_account_81 : decode cX9_account 81 = .ok (.invokevirtual 53, 3) := by decide +kernel
theorem dX9_account_84 : decode cX9_account 84 = .ok (.invokevirtual 153, 3) := by decide +kernel
theorem dX9_account_87 : decode cX9_account 87 = .ok (.ireturn, 1) := by decide +kernel
theorem dX9_account_88 : decode cX9_account 88 = .ok (.aload_n 0, 1) := by decide +kernel
theorem dX9_account_89 : decode cX9_account 89 = .ok (.iconst 2, 1) := by decide +kernel
theorem dX9_account_90 : decode cX9_account 90 = .ok (.invokevirtual 171, 3) := by decide +kernel
theorem dX9_account_93 : decode cX9_account 93 = .ok (.ireturn, 1) := by decide +kernel
theorem dX9_account_94 : decode cX9_account 94 = .ok (.aload_n 0, 1) := by decide +kernel
theorem dX9_account_95 : decode cX9_account 95 = .ok (.invokevirtual 235, 3) := by decide +kernel
theorem dX9_account_98 : decode cX9_account 98 = .ok (.ireturn, 1) := by decide +kernel
theorem dX9_account_99 : decode cX9_account 99 = .ok (.aload_n 0, 1) := by decide +kernel
theorem dX9_account_100 : decode cX9_account 100 = .ok (.getfield 43, 3) := by decide +kernel
theorem dX9_account_103 : decode cX9_account 103 = .ok (.ireturn, 1) := by decide +kernel
theorem dX9_account_104 : decode cX9_account 104 = .ok (.aload_n 0, 1) := by decide +kernel
theorem dX9_account_105 : decode cX9_account 105 = .ok (.getfield 69, 3) := by decide +kernel
theorem dX9_account_108 : decode cX9_account 108 = .ok (.ireturn, 1) := by decide +kernel
theorem dX9_undo_0 : decode cX9_undo 0 = .ok (.aload_n 0, 1) := by decide +kernel
theorem dX9_undo_1 : decode cX9_undo 1 = .ok (.aload_n 0, 1) := by decide +kernel
theorem dX9_undo_2 : decode cX9_undo 2 = .ok (.getfield 43, 3) := by decide +kernel
theorem dX9_undo_5 : decode cX9_undo 5 = .ok (.ifCond .ne 7, 3) := by decide +kernel
theorem dX9_undo_8 : decode cX9_undo 8 = .ok (.iconst 1, 1) := by decide +kernel
theorem dX9_undo_9 : decode cX9_undo 9 = .ok (.goto 4, 3) := by decide +kernel
theorem dX9_undo_12 : decode cX9_undo 12 = .ok (.iconst 0, 1) := by decide +kernel
theorem dX9_undo_13 : decode cX9_undo 13 = .ok (.putfield 36, 3) := by decide +kernel
theorem dX9_undo_16 : decode cX9_undo 16 = .ok (.aload_n 0, 1) := by decide +kernel
theorem dX9_undo_17 : decode cX9_undo 17 = .ok (.getfield 36, 3) := by decide +kernel
theorem dX9_undo_20 : decode cX9_undo 20 = .ok (.ifCond .eq 5, 3) := by decide +kernel
theorem dX9_undo_23 : decode cX9_undo 23 = .ok (.iconst 0, 1) := by decide +kernel
theorem dX9_undo_24 : decode cX9_undo 24 = .ok (.ireturn, 1) := by decide +kernel
theorem dX9_undo_25 : decode cX9_undo 25 = .ok (.aload_n 0, 1) := by decide +kernel
theorem dX9_undo_26 : decode cX9_undo 26 = .ok (.aload_n 0, 1) := by decide +kernel
theorem dX9_undo_27 : decode cX9_undo 27 = .ok (.getfield 43, 3) := by decide +kernel
theorem dX9_undo_30 : decode cX9_undo 30 = .ok (.iconst 0, 1) := by decide +kernel
theorem dX9_undo_31 : decode cX9_undo 31 = .ok (.invokevirtual 39, 3) := by decide +kernel
theorem dX9_undo_34 : decode cX9_undo 34 = .ok (.aload_n 0, 1) := by decide +kernel
theorem dX9_undo_35 : decode cX9_undo 35 = .ok (.dup, 1) := by decide +kernel
theorem dX9_undo_36 : decode cX9_undo 36 = .ok (.getfield 43, 3) := by decide +kernel
theorem dX9_undo_39 : decode cX9_undo 39 = .ok (.iconst 1, 1) := by decide +kernel
theorem dX9_undo_40 : decode cX9_undo 40 = .ok (.isub, 1) := by decide +kernel
theorem dX9_undo_41 : decode cX9_undo 41 = .ok (.putfield 43, 3) := by decide +kernel
theorem dX9_undo_44 : decode cX9_undo 44 = .ok (.aload_n 0, 1) := by decide +kernel
theorem dX9_undo_45 : decode cX9_undo 45 = .ok (.getfield 43, 3) := by decide +kernel
theorem dX9_undo_48 : decode cX9_undo 48 = .ok (.ireturn, 1) := by decide +kernel
theorem dX9_save_0 : decode cX9_save 0 = .ok (.aload_n 0, 1) := by decide +kernel
theorem dX9_save_1 : decode cX9_save 1 = .ok (.iconst 0, 1) := by decide +kernel
theorem dX9_save_2 : decode cX9_save 2 = .ok (.putfield 36, 3) := by decide +kernel
theorem dX9_save_5 : decode cX9_save 5 = .ok (.aload_n 0, 1) := by decide +kernel
theorem dX9_save_6 : decode cX9_save 6 = .ok (.iconst 1, 1) := by decide +kernel
theorem dX9_save_7 : decode cX9_save 7 = .ok (.putfield 238, 3) := by decide +kernel
theorem dX9_save_10 : decode cX9_save 10 = .ok (.aload_n 0, 1) := by decide +kernel
theorem dX9_save_11 : decode cX9_save 11 = .ok (.iconst 0, 1) := by decide +kernel
theorem dX9_save_12 : decode cX9_save 12 = .ok (.bipush 9, 2) := by decide +kernel
theorem dX9_save_14 : decode cX9_save 14 = .ok (.invokevirtual 39, 3) := by decide +kernel
theorem dX9_save_17 : decode cX9_save 17 = .ok (.aload_n 0, 1) := by decide +kernel
theorem dX9_save_18 : decode cX9_save 18 = .ok (.invokevirtual 53, 3) := by decide +kernel
theorem dX9_save_21 : decode cX9_save 21 = .ok (.ireturn, 1) := by decide +kernel
theorem dX9_restore_0 : decode cX9_restore 0 = .ok (.aload_n 0, 1) := by decide +kernel
theorem dX9_restore_1 : decode cX9_restore 1 = .ok (.aload_n 0, 1) := by decide +kernel
theorem dX9_restore_2 : decode cX9_restore 2 = .ok (.getfield 238, 3) := by decide +kernel
theorem dX9_restore_5 : decode cX9_restore 5 = .ok (.ifCond .eq 7, 3) := by decide +kernel
theorem dX9_restore_8 : decode cX9_restore 8 = .ok (.iconst 0, 1) := by decide +kernel
theorem dX9_restore_9 : decode cX9_restore 9 = .ok (.goto 4, 3) := by decide +kernel
theorem dX9_restore_12 : decode cX9_restore 12 = .ok (.iconst 1, 1) := by decide +kernel
theorem dX9_restore_13 : decode cX9_restore 13 = .ok (.putfield 36, 3) := by decide +kernel
theorem dX9_restore_16 : decode cX9_restore 16 = .ok (.aload_n 0, 1) := by decide +kernel
theorem dX9_restore_17 : decode cX9_restore 17 = .ok (.getfield 36, 3) := by decide +kernel
theorem dX9_restore_20 : decode cX9_restore 20 = .ok (.ifCond .eq 5, 3) := by decide +kernel
theorem dX9_restore_23 : decode cX9_restore 23 = .ok (.iconst 0, 1) := by decide +kernel
theorem dX9_restore_24 : decode cX9_restore 24 = .ok (.ireturn, 1) := by decide +kernel
theorem dX9_restore_25 : decode cX9_restore 25 = .ok (.aload_n 0, 1) := by decide +kernel
theorem dX9_restore_26 : decode cX9_restore 26 = .ok (.bipush 9, 2) := by decide +kernel
theorem dX9_restore_28 : decode cX9_restore 28 = .ok (.iconst 0, 1) := by decide +kernel
theorem dX9_restore_29 : decode cX9_restore 29 = .ok (.invokevirtual 39, 3) := by decide +kernel
theorem dX9_restore_32 : decode cX9_restore 32 = .ok (.aload_n 0, 1) := by decide +kernel
theorem dX9_restore_33 : decode cX9_restore 33 = .ok (.iconst 0, 1) := by decide +kernel
theorem dX9_restore_34 : decode cX9_restore 34 = .ok (.putfield 43, 3) := by decide +kernel
theorem dX9_restore_37 : decode cX9_restore 37 = .ok (.aload_n 0, 1) := by decide +kernel
theorem dX9_restore_38 : decode cX9_restore 38 = .ok (.invokevirtual 53, 3) := by decide +kernel
theorem dX9_restore_41 : decode cX9_restore 41 = .ok (.ireturn, 1) := by decide +kernel
