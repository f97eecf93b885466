/-! decode rows (printed, given for pasting) -/
theorem dX4_init_0 : decode cX4_init 0 = .ok (.aload_n 0, 1) := by decide +kernel
theorem dX4_init_1 : decode cX4_init 1 = .ok (.invokespecial 3, 3) := by decide +kernel
theorem dX4_init_4 : decode cX4_init 4 = .ok (.aload_n 0, 1) := by decide +kernel
theorem dX4_init_5 : decode cX4_init 5 = .ok (.bipush 8, 2) := by decide +kernel
theorem dX4_init_7 : decode cX4_init 7 = .ok (.anewarray 9, 3) := by decide +kernel
theorem dX4_init_10 : decode cX4_init 10 = .ok (.putfield 11, 3) := by decide +kernel
theorem dX4_init_13 : decode cX4_init 13 = .ok (.iconst 0, 1) := by decide +kernel
theorem dX4_init_14 : decode cX4_init 14 = .ok (.istore_n 1, 1) := by decide +kernel
theorem dX4_init_15 : decode cX4_init 15 = .ok (.iload_n 1, 1) := by decide +kernel
theorem dX4_init_16 : decode cX4_init 16 = .ok (.bipush 8, 2) := by decide +kernel
theorem dX4_init_18 : decode cX4_init 18 = .ok (.if_icmp .ge 22, 3) := by decide +kernel
theorem dX4_init_21 : decode cX4_init 21 = .ok (.aload_n 0, 1) := by decide +kernel
theorem dX4_init_22 : decode cX4_init 22 = .ok (.getfield 11, 3) := by decide +kernel
theorem dX4_init_25 : decode cX4_init 25 = .ok (.iload_n 1, 1) := by decide +kernel
theorem dX4_init_26 : decode cX4_init 26 = .ok (.new 9, 3) := by decide +kernel
theorem dX4_init_29 : decode cX4_init 29 = .ok (.dup, 1) := by decide +kernel
theorem dX4_init_30 : decode cX4_init 30 = .ok (.invokespecial 17, 3) := by decide +kernel
theorem dX4_init_33 : decode cX4_init 33 = .ok (.aastore, 1) := by decide +kernel
theorem dX4_init_34 : decode cX4_init 34 = .ok (.iinc 1 1, 3) := by decide +kernel
theorem dX4_init_37 : decode cX4_init 37 = .ok (.goto (-22), 3) := by decide +kernel
theorem dX4_init_40 : decode cX4_init 40 = .ok (.aload_n 0, 1) := by decide +kernel
theorem dX4_init_41 : decode cX4_init 41 = .ok (.iconst 0, 1) := by decide +kernel
theorem dX4_init_42 : decode cX4_init 42 = .ok (.putfield 18, 3) := by decide +kernel
theorem dX4_init_45 : decode cX4_init 45 = .ok (.aload_n 0, 1) := by decide +kernel
theorem dX4_init_46 : decode cX4_init 46 = .ok (.iconst 0, 1) := by decide +kernel
theorem dX4_init_47 : decode cX4_init 47 = .ok (.putfield 22, 3) := by decide +kernel
theorem dX4_init_50 : decode cX4_init 50 = .ok (.return_, 1) := by decide +kernel
theorem dX4_size_0 : decode cX4_size 0 = .ok (.aload_n 0, 1) := by decide +kernel
theorem dX4_size_1 : decode cX4_size 1 = .ok (.getfield 22, 3) := by decide +kernel
theorem dX4_size_4 : decode cX4_size 4 = .ok (.ireturn, 1) := by decide +kernel
theorem dX4_keep_0 : decode cX4_keep 0 = .ok (.aload_n 0, 1) := by decide +kernel
theorem dX4_keep_1 : decode cX4_keep 1 = .ok (.getfield 11, 3) := by decide +kernel
theorem dX4_keep_4 : decode cX4_keep 4 = .ok (.aload_n 0, 1) := by decide +kernel
theorem dX4_keep_5 : decode cX4_keep 5 = .ok (.getfield 18, 3) := by decide +kernel
theorem dX4_keep_8 : decode cX4_keep 8 = .ok (.aload_n 0, 1) := by decide +kernel
theorem dX4_keep_9 : decode cX4_keep 9 = .ok (.getfield 22, 3) := by decide +kernel
theorem dX4_keep_12 : decode cX4_keep 12 = .ok (.iadd, 1) := by decide +kernel
theorem dX4_keep_13 : decode cX4_keep 13 = .ok (.bipush 8, 2) := by decide +kernel
theorem dX4_keep_15 : decode cX4_keep 15 = .ok (.irem, 1) := by decide +kernel
theorem dX4_keep_16 : decode cX4_keep 16 = .ok (.aaload, 1) := by decide +kernel
theorem dX4_keep_17 : decode cX4_keep 17 = .ok (.aload_n 1, 1) := by decide +kernel
theorem dX4_keep_18 : decode cX4_keep 18 = .ok (.invokevirtual 25, 3) := by decide +kernel
theorem dX4_keep_21 : decode cX4_keep 21 = .ok (.aload_n 0, 1) := by decide +kernel
theorem dX4_keep_22 : decode cX4_keep 22 = .ok (.getfield 22, 3) := by decide +kernel
theorem dX4_keep_25 : decode cX4_keep 25 = .ok (.bipush 8, 2) := by decide +kernel
theorem dX4_keep_27 : decode cX4_keep 27 = .ok (.if_icmp .ge 16, 3) := by decide +kernel
theorem dX4_keep_30 : decode cX4_keep 30 = .ok (.aload_n 0, 1) := by decide +kernel
theorem dX4_keep_31 : decode cX4_keep 31 = .ok (.dup, 1) := by decide +kernel
theorem dX4_keep_32 : decode cX4_keep 32 = .ok (.getfield 22, 3) := by decide +kernel
theorem dX4_keep_35 : decode cX4_keep 35 = .ok (.iconst 1, 1) := by decide +kernel
theorem dX4_keep_36 : decode cX4_keep 36 = .ok (.iadd, 1) := by decide +kernel
theorem dX4_keep_37 : decode cX4_keep 37 = .ok (.putfield 22, 3) := by decide +kernel
theorem dX4_keep_40 : decode cX4_keep 40 = .ok (.goto 16, 3) := by decide +kernel
theorem dX4_keep_43 : decode cX4_keep 43 = .ok (.aload_n 0, 1) := by decide +kernel
theorem dX4_keep_44 : decode cX4_keep 44 = .ok (.aload_n 0, 1) := by decide +kernel
theorem dX4_keep_45 : decode cX4_keep 45 = .ok (.getfield 18, 3) := by decide +kernel
theorem dX4_keep_48 : decode cX4_keep 48 = .ok (.iconst 1, 1) := by decide +kernel
theorem dX4_keep_49 : decode cX4_keep 49 = .ok (.iadd, 1) := by decide +kernel
theorem dX4_keep_50 : decode cX4_keep 50 = .ok (.bipush 8, 2) := by decide +kernel
theorem dX4_keep_52 : decode cX4_keep 52 = .ok (.irem, 1) := by decide +kernel
theorem dX4_keep_53 : decode cX4_keep 53 = .ok (.putfield 18, 3) := by decide +kernel
theorem dX4_keep_56 : decode cX4_keep 56 = .ok (.return_, 1) := by decide +kernel
theorem dX5_longestRepeat_0 : decode cX5_longestRepeat 0 = .ok (.iconst 0, 1) := by decide +kernel
theorem dX5_longestRepeat_1 : decode cX5_longestRepeat 1 = .ok (.istore_n 2, 1) := by decide +kernel
theorem dX5_longestRepeat_2 : decode cX5_longestRepeat 2 = .ok (.iconst 0, 1) := by decide +kernel
theorem dX5_longestRepeat_3 : decode cX5_longestRepeat 3 = .ok (.istore_n 3, 1) := by decide +kernel
theorem dX5_longestRepeat_4 : decode cX5_longestRepeat 4 = .ok (.iload_n 3, 1) := by decide +kernel
theorem dX5_longestRepeat_5 : decode cX5_longestRepeat 5 = .ok (.aload_n 0, 1) := by decide +kernel
theorem dX5_longestRepeat_6 : decode cX5_longestRepeat 6 = .ok (.iload_n 1, 1) := by decide +kernel
theorem dX5_longestRepeat_7 : decode cX5_longestRepeat 7 = .ok (.invokevirtual 9, 3) := by decide +kernel
theorem dX5_longestRepeat_10 : decode cX5_longestRepeat 10 = .ok (.if_icmp .ge 22, 3) := by decide +kernel
theorem dX5_longestRepeat_13 : decode cX5_longestRepeat 13 = .ok (.iload_n 2, 1) := by decide +kernel
theorem dX5_longestRepeat_14 : decode cX5_longestRepeat 14 = .ok (.aload_n 0, 1) := by decide +kernel
theorem dX5_longestRepeat_15 : decode cX5_longestRepeat 15 = .ok (.iload_n 1, 1) := by decide +kernel
theorem dX5_longestRepeat_16 : decode cX5_longestRepeat 16 = .ok (.iload_n 3, 1) := by decide +kernel
theorem dX5_longestRepeat_17 : decode cX5_longestRepeat 17 = .ok (.iload_n 1, 1) := by decide +kernel
theorem dX5_longestRepeat_18 : decode cX5_longestRepeat 18 = .ok (.iload_n 3, 1) := by decide +kernel
theorem dX5_longestRepeat_19 : decode cX5_longestRepeat 19 = .ok (.invokestatic 15, 3) := by decide +kernel
theorem dX5_longestRepeat_22 : decode cX5_longestRepeat 22 = .ok (.invokestatic 21, 3) := by decide +kernel
theorem dX5_longestRepeat_25 : decode cX5_longestRepeat 25 = .ok (.istore_n 2, 1) := by decide +kernel
theorem dX5_longestRepeat_26 : decode cX5_longestRepeat 26 = .ok (.iinc 3 1, 3) := by decide +kernel
theorem dX5_longestRepeat_29 : decode cX5_longestRepeat 29 = .ok (.goto (-25), 3) := by decide +kernel
theorem dX5_longestRepeat_32 : decode cX5_longestRepeat 32 = .ok (.iload_n 2, 1) := by decide +kernel
theorem dX5_longestRepeat_33 : decode cX5_longestRepeat 33 = .ok (.ireturn, 1) := by decide +kernel
theorem dX5_longestShared_0 : decode cX5_longestShared 0 = .ok (.iconst 0, 1) := by decide +kernel
theorem dX5_longestShared_1 : decode cX5_longestShared 1 = .ok (.istore_n 3, 1) := by decide +kernel
theorem dX5_longestShared_2 : decode cX5_longestShared 2 = .ok (.iconst 0, 1) := by decide +kernel
theorem dX5_longestShared_3 : decode cX5_longestShared 3 = .ok (.istore 4, 2) := by decide +kernel
theorem dX5_longestShared_5 : decode cX5_longestShared 5 = .ok (.iload 4, 2) := by decide +kernel
theorem dX5_longestShared_7 : decode cX5_longestShared 7 = .ok (.aload_n 0, 1) := by decide +kernel
theorem dX5_longestShared_8 : decode cX5_longestShared 8 = .ok (.iload_n 1, 1) := by decide +kernel
theorem dX5_longestShared_9 : decode cX5_longestShared 9 = .ok (.invokevirtual 9, 3) := by decide +kernel
theorem dX5_longestShared_12 : decode cX5_longestShared 12 = .ok (.if_icmp .ge 27, 3) := by decide +kernel
theorem dX5_longestShared_15 : decode cX5_longestShared 15 = .ok (.iload_n 3, 1) := by decide +kernel
theorem dX5_longestShared_16 : decode cX5_longestShared 16 = .ok (.aload_n 0, 1) := by decide +kernel
theorem dX5_longestShared_17 : decode cX5_longestShared 17 = .ok (.iload_n 1, 1) := by decide +kernel
theorem dX5_longestShared_18 : decode cX5_longestShared 18 = .ok (.iload 4, 2) := by decide +kernel
theorem dX5_longestShared_20 : decode cX5_longestShared 20 = .ok (.iload_n 2, 1) := by decide +kernel
theorem dX5_longestShared_21 : decode cX5_longestShared 21 = .ok (.aload_n 0, 1) := by decide +kernel
theorem dX5_longestShared_22 : decode cX5_longestShared 22 = .ok (.iload_n 2, 1) := by decide +kernel
theorem dX5_longestShared_23 : decode cX5_longestShared 23 = .ok (.invokevirtual 9, 3) := by decide +kernel
theorem dX5_longestShared_26 : decode cX5_longestShared 26 = .ok (.invokestatic 15, 3) := by decide +kernel
theorem dX5_longestShared_29 : decode cX5_longestShared 29 = .ok (.invokestatic 21, 3) := by decide +kernel
theorem dX5_longestShared_32 : decode cX5_longestShared 32 = .ok (.istore_n 3, 1) := by decide +kernel
theorem dX5_longestShared_33 : decode cX5_longestShared 33 = .ok (.iinc 4 1, 3) := by decide +kernel
theorem dX5_longestShared_36 : decode cX5_longestShared 36 = .ok (.goto (-31), 3) := by decide +kernel
theorem dX5_longestShared_39 : decode cX5_longestShared 39 = .ok (.iload_n 3, 1) := by decide +kernel
theorem dX5_longestShared_40 : decode cX5_longestShared 40 = .ok (.ireturn, 1) := by decide +kernel
theorem dX5_shortestAlone_0 : decode cX5_shortestAlone 0 = .ok (.bipush 11, 2) := by decide +kernel
theorem dX5_shortestAlone_2 : decode cX5_shortestAlone 2 = .ok (.istore_n 2, 1) := by decide +kernel
theorem dX5_shortestAlone_3 : decode cX5_shortestAlone 3 = .ok (.iconst 0, 1) := by decide +kernel
theorem dX5_shortestAlone_4 : decode cX5_shortestAlone 4 = .ok (.istore_n 3, 1) := by decide +kernel
theorem dX5_shortestAlone_5 : decode cX5_shortestAlone 5 = .ok (.iload_n 3, 1) := by decide +kernel
theorem dX5_shortestAlone_6 : decode cX5_shortestAlone 6 = .ok (.aload_n 0, 1) := by decide +kernel
theorem dX5_shortestAlone_7 : decode cX5_shortestAlone 7 = .ok (.iload_n 1, 1) := by decide +kernel
theorem dX5_shortestAlone_8 : decode cX5_shortestAlone 8 = .ok (.invokevirtual 9, 3) := by decide +kernel
theorem dX5_shortestAlone_11 : decode cX5_shortestAlone 11 = .ok (.if_icmp .ge 20, 3) := by decide +kernel
theorem dX5_shortestAlone_14 : decode cX5_shortestAlone 14 = .ok (.iload_n 2, 1) := by decide +kernel
theorem dX5_shortestAlone_15 : decode cX5_shortestAlone 15 = .ok (.aload_n 0, 1) := by decide +kernel
theorem dX5_shortestAlone_16 : decode cX5_shortestAlone 16 = .ok (.iload_n 1, 1) := by decide +kernel
theorem dX5_shortestAlone_17 : decode cX5_shortestAlone 17 = .ok (.iload_n 3, 1) := by decide +kernel
theorem dX5_shortestAlone_18 : decode cX5_shortestAlone 18 = .ok (.invokestatic 27, 3) := by decide +kernel
theorem dX5_shortestAlone_21 : decode cX5_shortestAlone 21 = .ok (.invokestatic 31, 3) := by decide +kernel
theorem dX5_shortestAlone_24 : decode cX5_shortestAlone 24 = .ok (.istore_n 2, 1) := by decide +kernel
theorem dX5_shortestAlone_25 : decode cX5_shortestAlone 25 = .ok (.iinc 3 1, 3) := by decide +kernel
theorem dX5_shortestAlone_28 : decode cX5_shortestAlone 28 = .ok (.goto (-23), 3) := by decide +kernel
theorem dX5_shortestAlone_31 : decode cX5_shortestAlone 31 = .ok (.iload_n 2, 1) := by decide +kernel
theorem dX5_shortestAlone_32 : decode cX5_shortestAlone 32 = .ok (.ireturn, 1) := by decide +kernel
theorem dX5_firstAlonePlace_0 : decode cX5_firstAlonePlace 0 = .ok (.iconst 0, 1) := by decide +kernel
theorem dX5_firstAlonePlace_1 : decode cX5_firstAlonePlace 1 = .ok (.istore_n 3, 1) := by decide +kernel
theorem dX5_firstAlonePlace_2 : decode cX5_firstAlonePlace 2 = .ok (.iload_n 3, 1) := by decide +kernel
theorem dX5_firstAlonePlace_3 : decode cX5_firstAlonePlace 3 = .ok (.aload_n 0, 1) := by decide +kernel
theorem dX5_firstAlonePlace_4 : decode cX5_firstAlonePlace 4 = .ok (.iload_n 1, 1) := by decide +kernel
theorem dX5_firstAlonePlace_5 : decode cX5_firstAlonePlace 5 = .ok (.invokevirtual 9, 3) := by decide +kernel
theorem dX5_firstAlonePlace_8 : decode cX5_firstAlonePlace 8 = .ok (.if_icmp .ge 19, 3) := by decide +kernel
theorem dX5_firstAlonePlace_11 : decode cX5_firstAlonePlace 11 = .ok (.aload_n 0, 1) := by decide +kernel
theorem dX5_firstAlonePlace_12 : decode cX5_firstAlonePlace 12 = .ok (.iload_n 1, 1) := by decide +kernel
theorem dX5_firstAlonePlace_13 : decode cX5_firstAlonePlace 13 = .ok (.iload_n 3, 1) := by decide +kernel
theorem dX5_firstAlonePlace_14 : decode cX5_firstAlonePlace 14 = .ok (.invokestatic 27, 3) := by decide +kernel
theorem dX5_firstAlonePlace_17 : decode cX5_firstAlonePlace 17 = .ok (.iload_n 2, 1) := by decide +kernel
theorem dX5_firstAlonePlace_18 : decode cX5_firstAlonePlace 18 = .ok (.if_icmp .eq 9, 3) := by decide +kernel
theorem dX5_firstAlonePlace_21 : decode cX5_firstAlonePlace 21 = .ok (.iinc 3 1, 3) := by decide +kernel
theorem dX5_firstAlonePlace_24 : decode cX5_firstAlonePlace 24 = .ok (.goto (-22), 3) := by decide +kernel
theorem dX5_firstAlonePlace_27 : decode cX5_firstAlonePlace 27 = .ok (.iload_n 3, 1) := by decide +kernel
theorem dX5_firstAlonePlace_28 : decode cX5_firstAlonePlace 28 = .ok (.ireturn, 1) := by decide +kernel
theorem dX5_shortestAloneAt_0 : decode cX5_shortestAloneAt 0 = .ok (.iconst 0, 1) := by decide +kernel
theorem dX5_shortestAloneAt_1 : decode cX5_shortestAloneAt 1 = .ok (.istore_n 3, 1) := by decide +kernel
theorem dX5_shortestAloneAt_2 : decode cX5_shortestAloneAt 2 = .ok (.iconst 0, 1) := by decide +kernel
theorem dX5_shortestAloneAt_3 : decode cX5_shortestAloneAt 3 = .ok (.istore 4, 2) := by decide +kernel
theorem dX5_shortestAloneAt_5 : decode cX5_shortestAloneAt 5 = .ok (.iload 4, 2) := by decide +kernel
theorem dX5_shortestAloneAt_7 : decode cX5_shortestAloneAt 7 = .ok (.aload_n 0, 1) := by decide +kernel
theorem dX5_shortestAloneAt_8 : decode cX5_shortestAloneAt 8 = .ok (.invokevirtual 34, 3) := by decide +kernel
theorem dX5_shortestAloneAt_11 : decode cX5_shortestAloneAt 11 = .ok (.if_icmp .ge 34, 3) := by decide +kernel
theorem dX5_shortestAloneAt_14 : decode cX5_shortestAloneAt 14 = .ok (.iload 4, 2) := by decide +kernel
theorem dX5_shortestAloneAt_16 : decode cX5_shortestAloneAt 16 = .ok (.iload_n 1, 1) := by decide +kernel
theorem dX5_shortestAloneAt_17 : decode cX5_shortestAloneAt 17 = .ok (.if_icmp .eq 22, 3) := by decide +kernel
theorem dX5_shortestAloneAt_20 : decode cX5_shortestAloneAt 20 = .ok (.iload_n 3, 1) := by decide +kernel
theorem dX5_shortestAloneAt_21 : decode cX5_shortestAloneAt 21 = .ok (.aload_n 0, 1) := by decide +kernel
theorem dX5_shortestAloneAt_22 : decode cX5_shortestAloneAt 22 = .ok (.iload_n 1, 1) := by decide +kernel
theorem dX5_shortestAloneAt_23 : decode cX5_shortestAloneAt 23 = .ok (.iload_n 2, 1) := by decide +kernel
theorem dX5_shortestAloneAt_24 : decode cX5_shortestAloneAt 24 = .ok (.iload 4, 2) := by decide +kernel
theorem dX5_shortestAloneAt_26 : decode cX5_shortestAloneAt 26 = .ok (.aload_n 0, 1) := by decide +kernel
theorem dX5_shortestAloneAt_27 : decode cX5_shortestAloneAt 27 = .ok (.iload 4, 2) := by decide +kernel
theorem dX5_shortestAloneAt_29 : decode cX5_shortestAloneAt 29 = .ok (.invokevirtual 9, 3) := by decide +kernel
theorem dX5_shortestAloneAt_32 : decode cX5_shortestAloneAt 32 = .ok (.invokestatic 15, 3) := by decide +kernel
theorem dX5_shortestAloneAt_35 : decode cX5_shortestAloneAt 35 = .ok (.invokestatic 21, 3) := by decide +kernel
theorem dX5_shortestAloneAt_38 : decode cX5_shortestAloneAt 38 = .ok (.istore_n 3, 1) := by decide +kernel
theorem dX5_shortestAloneAt_39 : decode cX5_shortestAloneAt 39 = .ok (.iinc 4 1, 3) := by decide +kernel
theorem dX5_shortestAloneAt_42 : decode cX5_shortestAloneAt 42 = .ok (.goto (-37), 3) := by decide +kernel
theorem dX5_shortestAloneAt_45 : decode cX5_shortestAloneAt 45 = .ok (.iload_n 3, 1) := by decide +kernel
theorem dX5_shortestAloneAt_46 : decode cX5_shortestAloneAt 46 = .ok (.aload_n 0, 1) := by decide +kernel
theorem dX5_shortestAloneAt_47 : decode cX5_shortestAloneAt 47 = .ok (.iload_n 1, 1) := by decide +kernel
theorem dX5_shortestAloneAt_48 : decode cX5_shortestAloneAt 48 = .ok (.invokevirtual 9, 3) := by decide +kernel
theorem dX5_shortestAloneAt_51 : decode cX5_shortestAloneAt 51 = .ok (.iload_n 2, 1) := by decide +kernel
theorem dX5_shortestAloneAt_52 : decode cX5_shortestAloneAt 52 = .ok (.isub, 1) := by decide +kernel
theorem dX5_shortestAloneAt_53 : decode cX5_shortestAloneAt 53 = .ok (.if_icmp .ge 9, 3) := by decide +kernel
theorem dX5_shortestAloneAt_56 : decode cX5_shortestAloneAt 56 = .ok (.iload_n 3, 1) := by decide +kernel
theorem dX5_shortestAloneAt_57 : decode cX5_shortestAloneAt 57 = .ok (.iconst 1, 1) := by decide +kernel
theorem dX5_shortestAloneAt_58 : decode cX5_shortestAloneAt 58 = .ok (.iadd, 1) := by decide +kernel
theorem dX5_shortestAloneAt_59 : decode cX5_shortestAloneAt 59 = .ok (.goto 5, 3) := by decide +kernel
theorem dX5_shortestAloneAt_62 : decode cX5_shortestAloneAt 62 = .ok (.bipush 11, 2) := by decide +kernel
theorem dX5_shortestAloneAt_64 : decode cX5_shortestAloneAt 64 = .ok (.ireturn, 1) := by decide +kernel
theorem dX5_countNew_0 : decode cX5_countNew 0 = .ok (.iconst 0, 1) := by decide +kernel
theorem dX5_countNew_1 : decode cX5_countNew 1 = .ok (.istore_n 1, 1) := by decide +kernel
theorem dX5_countNew_2 : decode cX5_countNew 2 = .ok (.iconst 0, 1) := by decide +kernel
theorem dX5_countNew_3 : decode cX5_countNew 3 = .ok (.istore_n 2, 1) := by decide +kernel
theorem dX5_countNew_4 : decode cX5_countNew 4 = .ok (.iload_n 2, 1) := by decide +kernel
theorem dX5_countNew_5 : decode cX5_countNew 5 = .ok (.aload_n 0, 1) := by decide +kernel
theorem dX5_countNew_6 : decode cX5_countNew 6 = .ok (.invokevirtual 34, 3) := by decide +kernel
theorem dX5_countNew_9 : decode cX5_countNew 9 = .ok (.if_icmp .ge 43, 3) := by decide +kernel
theorem dX5_countNew_12 : decode cX5_countNew 12 = .ok (.iconst 0, 1) := by decide +kernel
theorem dX5_countNew_13 : decode cX5_countNew 13 = .ok (.istore_n 3, 1) := by decide +kernel
theorem dX5_countNew_14 : decode cX5_countNew 14 = .ok (.iload_n 3, 1) := by decide +kernel
theorem dX5_countNew_15 : decode cX5_countNew 15 = .ok (.aload_n 0, 1) := by decide +kernel
theorem dX5_countNew_16 : decode cX5_countNew 16 = .ok (.iload_n 2, 1) := by decide +kernel
theorem dX5_countNew_17 : decode cX5_countNew 17 = .ok (.invokevirtual 9, 3) := by decide +kernel
theorem dX5_countNew_20 : decode cX5_countNew 20 = .ok (.if_icmp .ge 26, 3) := by decide +kernel
theorem dX5_countNew_23 : decode cX5_countNew 23 = .ok (.iload_n 1, 1) := by decide +kernel
theorem dX5_countNew_24 : decode cX5_countNew 24 = .ok (.aload_n 0, 1) := by decide +kernel
theorem dX5_countNew_25 : decode cX5_countNew 25 = .ok (.iload_n 2, 1) := by decide +kernel
theorem dX5_countNew_26 : decode cX5_countNew 26 = .ok (.invokevirtual 9, 3) := by decide +kernel
theorem dX5_countNew_29 : decode cX5_countNew 29 = .ok (.iload_n 3, 1) := by decide +kernel
theorem dX5_countNew_30 : decode cX5_countNew 30 = .ok (.isub, 1) := by decide +kernel
theorem dX5_countNew_31 : decode cX5_countNew 31 = .ok (.aload_n 0, 1) := by decide +kernel
theorem dX5_countNew_32 : decode cX5_countNew 32 = .ok (.iload_n 2, 1) := by decide +kernel
theorem dX5_countNew_33 : decode cX5_countNew 33 = .ok (.iload_n 3, 1) := by decide +kernel
theorem dX5_countNew_34 : decode cX5_countNew 34 = .ok (.invokestatic 38, 3) := by decide +kernel
theorem dX5_countNew_37 : decode cX5_countNew 37 = .ok (.isub, 1) := by decide +kernel
theorem dX5_countNew_38 : decode cX5_countNew 38 = .ok (.iadd, 1) := by decide +kernel
theorem dX5_countNew_39 : decode cX5_countNew 39 = .ok (.istore_n 1, 1) := by decide +kernel
theorem dX5_countNew_40 : decode cX5_countNew 40 = .ok (.iinc 3 1, 3) := by decide +kernel
theorem dX5_countNew_43 : decode cX5_countNew 43 = .ok (.goto (-29), 3) := by decide +kernel
theorem dX5_countNew_46 : decode cX5_countNew 46 = .ok (.iinc 2 1, 3) := by decide +kernel
theorem dX5_countNew_49 : decode cX5_countNew 49 = .ok (.goto (-45), 3) := by decide +kernel
theorem dX5_countNew_52 : decode cX5_countNew 52 = .ok (.iload_n 1, 1) := by decide +kernel
theorem dX5_countNew_53 : decode cX5_countNew 53 = .ok (.ireturn, 1) := by decide +kernel
theorem dX5_mostFurtherAhead_0 : decode cX5_mostFurtherAhead 0 = .ok (.aload_n 0, 1) := by decide +kernel
theorem dX5_mostFurtherAhead_1 : decode cX5_mostFurtherAhead 1 = .ok (.iload_n 1, 1) := by decide +kernel
theorem dX5_mostFurtherAhead_2 : decode cX5_mostFurtherAhead 2 = .ok (.iload_n 2, 1) := by decide +kernel
theorem dX5_mostFurtherAhead_3 : decode cX5_mostFurtherAhead 3 = .ok (.iload_n 1, 1) := by decide +kernel
theorem dX5_mostFurtherAhead_4 : decode cX5_mostFurtherAhead 4 = .ok (.iload_n 2, 1) := by decide +kernel
theorem dX5_mostFurtherAhead_5 : decode cX5_mostFurtherAhead 5 = .ok (.invokestatic 15, 3) := by decide +kernel
theorem dX5_mostFurtherAhead_8 : decode cX5_mostFurtherAhead 8 = .ok (.istore_n 3, 1) := by decide +kernel
theorem dX5_mostFurtherAhead_9 : decode cX5_mostFurtherAhead 9 = .ok (.iconst 0, 1) := by decide +kernel
theorem dX5_mostFurtherAhead_10 : decode cX5_mostFurtherAhead 10 = .ok (.istore 4, 2) := by decide +kernel
theorem dX5_mostFurtherAhead_12 : decode cX5_mostFurtherAhead 12 = .ok (.iload 4, 2) := by decide +kernel
theorem dX5_mostFurtherAhead_14 : decode cX5_mostFurtherAhead 14 = .ok (.iload_n 1, 1) := by decide +kernel
theorem dX5_mostFurtherAhead_15 : decode cX5_mostFurtherAhead 15 = .ok (.if_icmp .ge 28, 3) := by decide +kernel
theorem dX5_mostFurtherAhead_18 : decode cX5_mostFurtherAhead 18 = .ok (.iload_n 3, 1) := by decide +kernel
theorem dX5_mostFurtherAhead_19 : decode cX5_mostFurtherAhead 19 = .ok (.aload_n 0, 1) := by decide +kernel
theorem dX5_mostFurtherAhead_20 : decode cX5_mostFurtherAhead 20 = .ok (.iload_n 1, 1) := by decide +kernel
theorem dX5_mostFurtherAhead_21 : decode cX5_mostFurtherAhead 21 = .ok (.iload_n 2, 1) := by decide +kernel
theorem dX5_mostFurtherAhead_22 : decode cX5_mostFurtherAhead 22 = .ok (.iload 4, 2) := by decide +kernel
theorem dX5_mostFurtherAhead_24 : decode cX5_mostFurtherAhead 24 = .ok (.aload_n 0, 1) := by decide +kernel
theorem dX5_mostFurtherAhead_25 : decode cX5_mostFurtherAhead 25 = .ok (.iload 4, 2) := by decide +kernel
theorem dX5_mostFurtherAhead_27 : decode cX5_mostFurtherAhead 27 = .ok (.invokevirtual 9, 3) := by decide +kernel
theorem dX5_mostFurtherAhead_30 : decode cX5_mostFurtherAhead 30 = .ok (.invokestatic 15, 3) := by decide +kernel
theorem dX5_mostFurtherAhead_33 : decode cX5_mostFurtherAhead 33 = .ok (.invokestatic 21, 3) := by decide +kernel
theorem dX5_mostFurtherAhead_36 : decode cX5_mostFurtherAhead 36 = .ok (.istore_n 3, 1) := by decide +kernel
theorem dX5_mostFurtherAhead_37 : decode cX5_mostFurtherAhead 37 = .ok (.iinc 4 1, 3) := by decide +kernel
theorem dX5_mostFurtherAhead_40 : decode cX5_mostFurtherAhead 40 = .ok (.goto (-28), 3) := by decide +kernel
theorem dX5_mostFurtherAhead_43 : decode cX5_mostFurtherAhead 43 = .ok (.iload_n 3, 1) := by decide +kernel
theorem dX5_mostFurtherAhead_44 : decode cX5_mostFurtherAhead 44 = .ok (.ireturn, 1) := by decide +kernel
theorem dX5_mostInLine_0 : decode cX5_mostInLine 0 = .ok (.iconst 0, 1) := by decide +kernel
theorem dX5_mostInLine_1 : decode cX5_mostInLine 1 = .ok (.istore 5, 2) := by decide +kernel
theorem dX5_mostInLine_3 : decode cX5_mostInLine 3 = .ok (.iconst 0, 1) := by decide +kernel
theorem dX5_mostInLine_4 : decode cX5_mostInLine 4 = .ok (.istore 6, 2) := by decide +kernel
theorem dX5_mostInLine_6 : decode cX5_mostInLine 6 = .ok (.iload 6, 2) := by decide +kernel
theorem dX5_mostInLine_8 : decode cX5_mostInLine 8 = .ok (.iload 4, 2) := by decide +kernel
theorem dX5_mostInLine_10 : decode cX5_mostInLine 10 = .ok (.if_icmp .ge 25, 3) := by decide +kernel
theorem dX5_mostInLine_13 : decode cX5_mostInLine 13 = .ok (.iload 5, 2) := by decide +kernel
theorem dX5_mostInLine_15 : decode cX5_mostInLine 15 = .ok (.aload_n 0, 1) := by decide +kernel
theorem dX5_mostInLine_16 : decode cX5_mostInLine 16 = .ok (.iload_n 1, 1) := by decide +kernel
theorem dX5_mostInLine_17 : decode cX5_mostInLine 17 = .ok (.iload_n 2, 1) := by decide +kernel
theorem dX5_mostInLine_18 : decode cX5_mostInLine 18 = .ok (.iload_n 3, 1) := by decide +kernel
theorem dX5_mostInLine_19 : decode cX5_mostInLine 19 = .ok (.iload 6, 2) := by decide +kernel
theorem dX5_mostInLine_21 : decode cX5_mostInLine 21 = .ok (.invokevirtual 41, 3) := by decide +kernel
theorem dX5_mostInLine_24 : decode cX5_mostInLine 24 = .ok (.invokestatic 21, 3) := by decide +kernel
theorem dX5_mostInLine_27 : decode cX5_mostInLine 27 = .ok (.istore 5, 2) := by decide +kernel
theorem dX5_mostInLine_29 : decode cX5_mostInLine 29 = .ok (.iinc 6 1, 3) := by decide +kernel
theorem dX5_mostInLine_32 : decode cX5_mostInLine 32 = .ok (.goto (-26), 3) := by decide +kernel
theorem dX5_mostInLine_35 : decode cX5_mostInLine 35 = .ok (.iload 5, 2) := by decide +kernel
theorem dX5_mostInLine_37 : decode cX5_mostInLine 37 = .ok (.ireturn, 1) := by decide +kernel
theorem dX5_countWord_0 : decode cX5_countWord 0 = .ok (.iconst 0, 1) := by decide +kernel
theorem dX5_countWord_1 : decode cX5_countWord 1 = .ok (.istore_n 2, 1) := by decide +kernel
theorem dX5_countWord_2 : decode cX5_countWord 2 = .ok (.iconst 0, 1) := by decide +kernel
theorem dX5_countWord_3 : decode cX5_countWord 3 = .ok (.istore_n 3, 1) := by decide +kernel
theorem dX5_countWord_4 : decode cX5_countWord 4 = .ok (.iload_n 3, 1) := by decide +kernel
theorem dX5_countWord_5 : decode cX5_countWord 5 = .ok (.aload_n 0, 1) := by decide +kernel
theorem dX5_countWord_6 : decode cX5_countWord 6 = .ok (.invokevirtual 34, 3) := by decide +kernel
theorem dX5_countWord_9 : decode cX5_countWord 9 = .ok (.if_icmp .ge 42, 3) := by decide +kernel
theorem dX5_countWord_12 : decode cX5_countWord 12 = .ok (.iconst 0, 1) := by decide +kernel
theorem dX5_countWord_13 : decode cX5_countWord 13 = .ok (.istore 4, 2) := by decide +kernel
theorem dX5_countWord_15 : decode cX5_countWord 15 = .ok (.iload 4, 2) := by decide +kernel
theorem dX5_countWord_17 : decode cX5_countWord 17 = .ok (.aload_n 0, 1) := by decide +kernel
theorem dX5_countWord_18 : decode cX5_countWord 18 = .ok (.iload_n 3, 1) := by decide +kernel
theorem dX5_countWord_19 : decode cX5_countWord 19 = .ok (.invokevirtual 9, 3) := by decide +kernel
theorem dX5_countWord_22 : decode cX5_countWord 22 = .ok (.if_icmp .ge 23, 3) := by decide +kernel
theorem dX5_countWord_25 : decode cX5_countWord 25 = .ok (.aload_n 0, 1) := by decide +kernel
theorem dX5_countWord_26 : decode cX5_countWord 26 = .ok (.iload_n 3, 1) := by decide +kernel
theorem dX5_countWord_27 : decode cX5_countWord 27 = .ok (.iload 4, 2) := by decide +kernel
theorem dX5_countWord_29 : decode cX5_countWord 29 = .ok (.aload_n 1, 1) := by decide +kernel
theorem dX5_countWord_30 : decode cX5_countWord 30 = .ok (.invokestatic 45, 3) := by decide +kernel
theorem dX5_countWord_33 : decode cX5_countWord 33 = .ok (.ifCond .ne 6, 3) := by decide +kernel
theorem dX5_countWord_36 : decode cX5_countWord 36 = .ok (.iinc 2 1, 3) := by decide +kernel
theorem dX5_countWord_39 : decode cX5_countWord 39 = .ok (.iinc 4 1, 3) := by decide +kernel
theorem dX5_countWord_42 : decode cX5_countWord 42 = .ok (.goto (-27), 3) := by decide +kernel
theorem dX5_countWord_45 : decode cX5_countWord 45 = .ok (.iinc 3 1, 3) := by decide +kernel
theorem dX5_countWord_48 : decode cX5_countWord 48 = .ok (.goto (-44), 3) := by decide +kernel
theorem dX5_countWord_51 : decode cX5_countWord 51 = .ok (.iload_n 2, 1) := by decide +kernel
theorem dX5_countWord_52 : decode cX5_countWord 52 = .ok (.ireturn, 1) := by decide +kernel
theorem dX5_isWordALine_0 : decode cX5_isWordALine 0 = .ok (.iconst 0, 1) := by decide +kernel
theorem dX5_isWordALine_1 : decode cX5_isWordALine 1 = .ok (.istore_n 2, 1) := by decide +kernel
theorem dX5_isWordALine_2 : decode cX5_isWordALine 2 = .ok (.iload_n 2, 1) := by decide +kernel
theorem dX5_isWordALine_3 : decode cX5_isWordALine 3 = .ok (.aload_n 0, 1) := by decide +kernel
theorem dX5_isWordALine_4 : decode cX5_isWordALine 4 = .ok (.invokevirtual 34, 3) := by decide +kernel
theorem dX5_isWordALine_7 : decode cX5_isWordALine 7 = .ok (.if_icmp .ge 33, 3) := by decide +kernel
theorem dX5_isWordALine_10 : decode cX5_isWordALine 10 = .ok (.aload_n 0, 1) := by decide +kernel
theorem dX5_isWordALine_11 : decode cX5_isWordALine 11 = .ok (.iload_n 2, 1) := by decide +kernel
theorem dX5_isWordALine_12 : decode cX5_isWordALine 12 = .ok (.invokevirtual 9, 3) := by decide +kernel
theorem dX5_isWordALine_15 : decode cX5_isWordALine 15 = .ok (.aload_n 1, 1) := by decide +kernel
theorem dX5_isWordALine_16 : decode cX5_isWordALine 16 = .ok (.invokevirtual 49, 3) := by decide +kernel
theorem dX5_isWordALine_19 : decode cX5_isWordALine 19 = .ok (.if_icmp .ne 15, 3) := by decide +kernel
theorem dX5_isWordALine_22 : decode cX5_isWordALine 22 = .ok (.aload_n 0, 1) := by decide +kernel
theorem dX5_isWordALine_23 : decode cX5_isWordALine 23 = .ok (.iload_n 2, 1) := by decide +kernel
theorem dX5_isWordALine_24 : decode cX5_isWordALine 24 = .ok (.iconst 0, 1) := by decide +kernel
theorem dX5_isWordALine_25 : decode cX5_isWordALine 25 = .ok (.aload_n 1, 1) := by decide +kernel
theorem dX5_isWordALine_26 : decode cX5_isWordALine 26 = .ok (.invokestatic 45, 3) := by decide +kernel
theorem dX5_isWordALine_29 : decode cX5_isWordALine 29 = .ok (.ifCond .ne 5, 3) := by decide +kernel
theorem dX5_isWordALine_32 : decode cX5_isWordALine 32 = .ok (.iconst 1, 1) := by decide +kernel
theorem dX5_isWordALine_33 : decode cX5_isWordALine 33 = .ok (.ireturn, 1) := by decide +kernel
theorem dX5_isWordALine_34 : decode cX5_isWordALine 34 = .ok (.iinc 2 1, 3) := by decide +kernel
theorem dX5_isWordALine_37 : decode cX5_isWordALine 37 = .ok (.goto (-35), 3) := by decide +kernel
theorem dX5_isWordALine_40 : decode cX5_isWordALine 40 = .ok (.iconst 0, 1) := by decide +kernel
theorem dX5_isWordALine_41 : decode cX5_isWordALine 41 = .ok (.ireturn, 1) := by decide +kernel
theorem dX5_compareToWord_0 : decode cX5_compareToWord 0 = .ok (.iconst 0, 1) := by decide +kernel
theorem dX5_compareToWord_1 : decode cX5_compareToWord 1 = .ok (.istore 4, 2) := by decide +kernel
theorem dX5_compareToWord_3 : decode cX5_compareToWord 3 = .ok (.iload 4, 2) := by decide +kernel
theorem dX5_compareToWord_5 : decode cX5_compareToWord 5 = .ok (.aload_n 3, 1) := by decide +kernel
theorem dX5_compareToWord_6 : decode cX5_compareToWord 6 = .ok (.invokevirtual 49, 3) := by decide +kernel
theorem dX5_compareToWord_9 : decode cX5_compareToWord 9 = .ok (.if_icmp .ge 41, 3) := by decide +kernel
theorem dX5_compareToWord_12 : decode cX5_compareToWord 12 = .ok (.aload_n 0, 1) := by decide +kernel
theorem dX5_compareToWord_13 : decode cX5_compareToWord 13 = .ok (.iload_n 1, 1) := by decide +kernel
theorem dX5_compareToWord_14 : decode cX5_compareToWord 14 = .ok (.iload_n 2, 1) := by decide +kernel
theorem dX5_compareToWord_15 : decode cX5_compareToWord 15 = .ok (.iload 4, 2) := by decide +kernel
theorem dX5_compareToWord_17 : decode cX5_compareToWord 17 = .ok (.iadd, 1) := by decide +kernel
theorem dX5_compareToWord_18 : decode cX5_compareToWord 18 = .ok (.invokevirtual 54, 3) := by decide +kernel
theorem dX5_compareToWord_21 : decode cX5_compareToWord 21 = .ok (.istore 5, 2) := by decide +kernel
theorem dX5_compareToWord_23 : decode cX5_compareToWord 23 = .ok (.iload 5, 2) := by decide +kernel
theorem dX5_compareToWord_25 : decode cX5_compareToWord 25 = .ok (.aload_n 3, 1) := by decide +kernel
theorem dX5_compareToWord_26 : decode cX5_compareToWord 26 = .ok (.iload 4, 2) := by decide +kernel
theorem dX5_compareToWord_28 : decode cX5_compareToWord 28 = .ok (.invokevirtual 58, 3) := by decide +kernel
theorem dX5_compareToWord_31 : decode cX5_compareToWord 31 = .ok (.if_icmp .eq 13, 3) := by decide +kernel
theorem dX5_compareToWord_34 : decode cX5_compareToWord 34 = .ok (.iload 5, 2) := by decide +kernel
theorem dX5_compareToWord_36 : decode cX5_compareToWord 36 = .ok (.aload_n 3, 1) := by decide +kernel
theorem dX5_compareToWord_37 : decode cX5_compareToWord 37 = .ok (.iload 4, 2) := by decide +kernel
theorem dX5_compareToWord_39 : decode cX5_compareToWord 39 = .ok (.invokevirtual 58, 3) := by decide +kernel
theorem dX5_compareToWord_42 : decode cX5_compareToWord 42 = .ok (.isub, 1) := by decide +kernel
theorem dX5_compareToWord_43 : decode cX5_compareToWord 43 = .ok (.ireturn, 1) := by decide +kernel
theorem dX5_compareToWord_44 : decode cX5_compareToWord 44 = .ok (.iinc 4 1, 3) := by decide +kernel
theorem dX5_compareToWord_47 : decode cX5_compareToWord 47 = .ok (.goto (-44), 3) := by decide +kernel
theorem dX5_compareToWord_50 : decode cX5_compareToWord 50 = .ok (.iconst 0, 1) := by decide +kernel
theorem dX5_compareToWord_51 : decode cX5_compareToWord 51 = .ok (.ireturn, 1) := by decide +kernel
theorem dX6_init_0 : decode cX6_init 0 = .ok (.aload_n 0, 1) := by decide +kernel
theorem dX6_init_1 : decode cX6_init 1 = .ok (.invokespecial 3, 3) := by decide +kernel
theorem dX6_init_4 : decode cX6_init 4 = .ok (.aload_n 0, 1) := by decide +kernel
theorem dX6_init_5 : decode cX6_init 5 = .ok (.iconst 3, 1) := by decide +kernel
theorem dX6_init_6 : decode cX6_init 6 = .ok (.newarray .int, 2) := by decide +kernel
theorem dX6_init_8 : decode cX6_init 8 = .ok (.putfield 9, 3) := by decide +kernel
theorem dX6_init_11 : decode cX6_init 11 = .ok (.aload_n 0, 1) := by decide +kernel
theorem dX6_init_12 : decode cX6_init 12 = .ok (.iconst 3, 1) := by decide +kernel
theorem dX6_init_13 : decode cX6_init 13 = .ok (.newarray .int, 2) := by decide +kernel
theorem dX6_init_15 : decode cX6_init 15 = .ok (.putfield 15, 3) := by decide +kernel
theorem dX6_init_18 : decode cX6_init 18 = .ok (.aload_n 0, 1) := by decide +kernel
theorem dX6_init_19 : decode cX6_init 19 = .ok (.iconst 0, 1) := by decide +kernel
theorem dX6_init_20 : decode cX6_init 20 = .ok (.putfield 18, 3) := by decide +kernel
theorem dX6_init_23 : decode cX6_init 23 = .ok (.return_, 1) := by decide +kernel
theorem dX6_reasonCount_0 : decode cX6_reasonCount 0 = .ok (.aload_n 0, 1) := by decide +kernel
theorem dX6_reasonCount_1 : decode cX6_reasonCount 1 = .ok (.getfield 18, 3) := by decide +kernel
theorem dX6_reasonCount_4 : decode cX6_reasonCount 4 = .ok (.ireturn, 1) := by decide +kernel
theorem dX6_reasonAt_0 : decode cX6_reasonAt 0 = .ok (.iload_n 1, 1) := by decide +kernel
theorem dX6_reasonAt_1 : decode cX6_reasonAt 1 = .ok (.ifCond .lt 20, 3) := by decide +kernel
theorem dX6_reasonAt_4 : decode cX6_reasonAt 4 = .ok (.iload_n 1, 1) := by decide +kernel
theorem dX6_reasonAt_5 : decode cX6_reasonAt 5 = .ok (.aload_n 0, 1) := by decide +kernel
theorem dX6_reasonAt_6 : decode cX6_reasonAt 6 = .ok (.getfield 18, 3) := by decide +kernel
theorem dX6_reasonAt_9 : decode cX6_reasonAt 9 = .ok (.if_icmp .ge 12, 3) := by decide +kernel
theorem dX6_reasonAt_12 : decode cX6_reasonAt 12 = .ok (.aload_n 0, 1) := by decide +kernel
theorem dX6_reasonAt_13 : decode cX6_reasonAt 13 = .ok (.getfield 9, 3) := by decide +kernel
theorem dX6_reasonAt_16 : decode cX6_reasonAt 16 = .ok (.iload_n 1, 1) := by decide +kernel
theorem dX6_reasonAt_17 : decode cX6_reasonAt 17 = .ok (.iaload, 1) := by decide +kernel
theorem dX6_reasonAt_18 : decode cX6_reasonAt 18 = .ok (.goto 4, 3) := by decide +kernel
theorem dX6_reasonAt_21 : decode cX6_reasonAt 21 = .ok (.iconst 0, 1) := by decide +kernel
theorem dX6_reasonAt_22 : decode cX6_reasonAt 22 = .ok (.ireturn, 1) := by decide +kernel
theorem dX6_detailAt_0 : decode cX6_detailAt 0 = .ok (.iload_n 1, 1) := by decide +kernel
theorem dX6_detailAt_1 : decode cX6_detailAt 1 = .ok (.ifCond .lt 20, 3) := by decide +kernel
theorem dX6_detailAt_4 : decode cX6_detailAt 4 = .ok (.iload_n 1, 1) := by decide +kernel
theorem dX6_detailAt_5 : decode cX6_detailAt 5 = .ok (.aload_n 0, 1) := by decide +kernel
theorem dX6_detailAt_6 : decode cX6_detailAt 6 = .ok (.getfield 18, 3) := by decide +kernel
theorem dX6_detailAt_9 : decode cX6_detailAt 9 = .ok (.if_icmp .ge 12, 3) := by decide +kernel
theorem dX6_detailAt_12 : decode cX6_detailAt 12 = .ok (.aload_n 0, 1) := by decide +kernel
theorem dX6_detailAt_13 : decode cX6_detailAt 13 = .ok (.getfield 15, 3) := by decide +kernel
theorem dX6_detailAt_16 : decode cX6_detailAt 16 = .ok (.iload_n 1, 1) := by decide +kernel
theorem dX6_detailAt_17 : decode cX6_detailAt 17 = .ok (.iaload, 1) := by decide +kernel
theorem dX6_detailAt_18 : decode cX6_detailAt 18 = .ok (.goto 4, 3) := by decide +kernel
theorem dX6_detailAt_21 : decode cX6_detailAt 21 = .ok (.iconst 0, 1) := by decide +kernel
theorem dX6_detailAt_22 : decode cX6_detailAt 22 = .ok (.ireturn, 1) := by decide +kernel
theorem dX6_keep_0 : decode cX6_keep 0 = .ok (.aload_n 0, 1) := by decide +kernel
theorem dX6_keep_1 : decode cX6_keep 1 = .ok (.getfield 9, 3) := by decide +kernel
theorem dX6_keep_4 : decode cX6_keep 4 = .ok (.iconst 0, 1) := by decide +kernel
theorem dX6_keep_5 : decode cX6_keep 5 = .ok (.iload_n 1, 1) := by decide +kernel
theorem dX6_keep_6 : decode cX6_keep 6 = .ok (.iastore, 1) := by decide +kernel
theorem dX6_keep_7 : decode cX6_keep 7 = .ok (.aload_n 0, 1) := by decide +kernel
theorem dX6_keep_8 : decode cX6_keep 8 = .ok (.getfield 15, 3) := by decide +kernel
theorem dX6_keep_11 : decode cX6_keep 11 = .ok (.iconst 0, 1) := by decide +kernel
theorem dX6_keep_12 : decode cX6_keep 12 = .ok (.iload_n 2, 1) := by decide +kernel
theorem dX6_keep_13 : decode cX6_keep 13 = .ok (.iastore, 1) := by decide +kernel
theorem dX6_keep_14 : decode cX6_keep 14 = .ok (.aload_n 0, 1) := by decide +kernel
theorem dX6_keep_15 : decode cX6_keep 15 = .ok (.iconst 1, 1) := by decide +kernel
theorem dX6_keep_16 : decode cX6_keep 16 = .ok (.putfield 18, 3) := by decide +kernel
theorem dX6_keep_19 : decode cX6_keep 19 = .ok (.return_, 1) := by decide +kernel
theorem dX6_keepCause_0 : decode cX6_keepCause 0 = .ok (.aload_n 0, 1) := by decide +kernel
theorem dX6_keepCause_1 : decode cX6_keepCause 1 = .ok (.getfield 18, 3) := by decide +kernel
theorem dX6_keepCause_4 : decode cX6_keepCause 4 = .ok (.iconst 3, 1) := by decide +kernel
theorem dX6_keepCause_5 : decode cX6_keepCause 5 = .ok (.if_icmp .ge 33, 3) := by decide +kernel
theorem dX6_keepCause_8 : decode cX6_keepCause 8 = .ok (.aload_n 0, 1) := by decide +kernel
theorem dX6_keepCause_9 : decode cX6_keepCause 9 = .ok (.getfield 9, 3) := by decide +kernel
theorem dX6_keepCause_12 : decode cX6_keepCause 12 = .ok (.aload_n 0, 1) := by decide +kernel
theorem dX6_keepCause_13 : decode cX6_keepCause 13 = .ok (.getfield 18, 3) := by decide +kernel
theorem dX6_keepCause_16 : decode cX6_keepCause 16 = .ok (.iload_n 1, 1) := by decide +kernel
theorem dX6_keepCause_17 : decode cX6_keepCause 17 = .ok (.iastore, 1) := by decide +kernel
theorem dX6_keepCause_18 : decode cX6_keepCause 18 = .ok (.aload_n 0, 1) := by decide +kernel
theorem dX6_keepCause_19 : decode cX6_keepCause 19 = .ok (.getfield 15, 3) := by decide +kernel
theorem dX6_keepCause_22 : decode cX6_keepCause 22 = .ok (.aload_n 0, 1) := by decide +kernel
theorem dX6_keepCause_23 : decode cX6_keepCause 23 = .ok (.getfield 18, 3) := by decide +kernel
theorem dX6_keepCause_26 : decode cX6_keepCause 26 = .ok (.iload_n 2, 1) := by decide +kernel
theorem dX6_keepCause_27 : decode cX6_keepCause 27 = .ok (.iastore, 1) := by decide +kernel
theorem dX6_keepCause_28 : decode cX6_keepCause 28 = .ok (.aload_n 0, 1) := by decide +kernel
theorem dX6_keepCause_29 : decode cX6_keepCause 29 = .ok (.dup, 1) := by decide +kernel
theorem dX6_keepCause_30 : decode cX6_keepCause 30 = .ok (.getfield 18, 3) := by decide +kernel
theorem dX6_keepCause_33 : decode cX6_keepCause 33 = .ok (.iconst 1, 1) := by decide +kernel
theorem dX6_keepCause_34 : decode cX6_keepCause 34 = .ok (.iadd, 1) := by decide +kernel
theorem dX6_keepCause_35 : decode cX6_keepCause 35 = .ok (.putfield 18, 3) := by decide +kernel
theorem dX6_keepCause_38 : decode cX6_keepCause 38 = .ok (.return_, 1) := by decide +kernel
theorem dX7_init_0 : decode cX7_init 0 = .ok (.aload_n 0, 1) := by decide +kernel
theorem dX7_init_1 : decode cX7_init 1 = .ok (.invokespecial 3, 3) := by decide +kernel
theorem dX7_init_4 : decode cX7_init 4 = .ok (.aload_n 0, 1) := by decide +kernel
theorem dX7_init_5 : decode cX7_init 5 = .ok (.bipush 60, 2) := by decide +kernel
theorem dX7_init_7 : decode cX7_init 7 = .ok (.newarray .char, 2) := by decide +kernel
theorem dX7_init_9 : decode cX7_init 9 = .ok (.putfield 9, 3) := by decide +kernel
theorem dX7_init_12 : decode cX7_init 12 = .ok (.aload_n 0, 1) := by decide +kernel
theorem dX7_init_13 : decode cX7_init 13 = .ok (.iconst 0, 1) := by decide +kernel
theorem dX7_init_14 : decode cX7_init 14 = .ok (.putfield 15, 3) := by decide +kernel
theorem dX7_init_17 : decode cX7_init 17 = .ok (.return_, 1) := by decide +kernel
theorem dX7_length_0 : decode cX7_length 0 = .ok (.aload_n 0, 1) := by decide +kernel
theorem dX7_length_1 : decode cX7_length 1 = .ok (.getfield 15, 3) := by decide +kernel
theorem dX7_length_4 : decode cX7_length 4 = .ok (.ireturn, 1) := by decide +kernel
theorem dX7_isFull_0 : decode cX7_isFull 0 = .ok (.aload_n 0, 1) := by decide +kernel
theorem dX7_isFull_1 : decode cX7_isFull 1 = .ok (.getfield 15, 3) := by decide +kernel
theorem dX7_isFull_4 : decode cX7_isFull 4 = .ok (.bipush 60, 2) := by decide +kernel
theorem dX7_isFull_6 : decode cX7_isFull 6 = .ok (.if_icmp .lt 7, 3) := by decide +kernel
theorem dX7_isFull_9 : decode cX7_isFull 9 = .ok (.iconst 1, 1) := by decide +kernel
theorem dX7_isFull_10 : decode cX7_isFull 10 = .ok (.goto 4, 3) := by decide +kernel
theorem dX7_isFull_13 : decode cX7_isFull 13 = .ok (.iconst 0, 1) := by decide +kernel
theorem dX7_isFull_14 : decode cX7_isFull 14 = .ok (.ireturn, 1) := by decide +kernel
theorem dX7_put_0 : decode cX7_put 0 = .ok (.aload_n 0, 1) := by decide +kernel
theorem dX7_put_1 : decode cX7_put 1 = .ok (.getfield 15, 3) := by decide +kernel
theorem dX7_put_4 : decode cX7_put 4 = .ok (.bipush 60, 2) := by decide +kernel
theorem dX7_put_6 : decode cX7_put 6 = .ok (.if_icmp .ge 23, 3) := by decide +kernel
theorem dX7_put_9 : decode cX7_put 9 = .ok (.aload_n 0, 1) := by decide +kernel
theorem dX7_put_10 : decode cX7_put 10 = .ok (.getfield 9, 3) := by decide +kernel
theorem dX7_put_13 : decode cX7_put 13 = .ok (.aload_n 0, 1) := by decide +kernel
theorem dX7_put_14 : decode cX7_put 14 = .ok (.getfield 15, 3) := by decide +kernel
theorem dX7_put_17 : decode cX7_put 17 = .ok (.iload_n 1, 1) := by decide +kernel
theorem dX7_put_18 : decode cX7_put 18 = .ok (.castore, 1) := by decide +kernel
theorem dX7_put_19 : decode cX7_put 19 = .ok (.aload_n 0, 1) := by decide +kernel
theorem dX7_put_20 : decode cX7_put 20 = .ok (.dup, 1) := by decide +kernel
theorem dX7_put_21 : decode cX7_put 21 = .ok (.getfield 15, 3) := by decide +kernel
theorem dX7_put_24 : decode cX7_put 24 = .ok (.iconst 1, 1) := by decide +kernel
theorem dX7_put_25 : decode cX7_put 25 = .ok (.iadd, 1) := by decide +kernel
theorem dX7_put_26 : decode cX7_put 26 = .ok (.putfield 15, 3) := by decide +kernel
theorem dX7_put_29 : decode cX7_put 29 = .ok (.return_, 1) := by decide +kernel
theorem dX7_clear_0 : decode cX7_clear 0 = .ok (.aload_n 0, 1) := by decide +kernel
theorem dX7_clear_1 : decode cX7_clear 1 = .ok (.iconst 0, 1) := by decide +kernel
theorem dX7_clear_2 : decode cX7_clear 2 = .ok (.putfield 15, 3) := by decide +kernel
theorem dX7_clear_5 : decode cX7_clear 5 = .ok (.return_, 1) := by decide +kernel
theorem dX7_characterAt_0 : decode cX7_characterAt 0 = .ok (.iload_n 1, 1) := by decide +kernel
theorem dX7_characterAt_1 : decode cX7_characterAt 1 = .ok (.ifCond .lt 20, 3) := by decide +kernel
theorem dX7_characterAt_4 : decode cX7_characterAt 4 = .ok (.iload_n 1, 1) := by decide +kernel
theorem dX7_characterAt_5 : decode cX7_characterAt 5 = .ok (.aload_n 0, 1) := by decide +kernel
theorem dX7_characterAt_6 : decode cX7_characterAt 6 = .ok (.getfield 15, 3) := by decide +kernel
theorem dX7_characterAt_9 : decode cX7_characterAt 9 = .ok (.if_icmp .ge 12, 3) := by decide +kernel
theorem dX7_characterAt_12 : decode cX7_characterAt 12 = .ok (.aload_n 0, 1) := by decide +kernel
theorem dX7_characterAt_13 : decode cX7_characterAt 13 = .ok (.getfield 9, 3) := by decide +kernel
theorem dX7_characterAt_16 : decode cX7_characterAt 16 = .ok (.iload_n 1, 1) := by decide +kernel
theorem dX7_characterAt_17 : decode cX7_characterAt 17 = .ok (.caload, 1) := by decide +kernel
theorem dX7_characterAt_18 : decode cX7_characterAt 18 = .ok (.goto 4, 3) := by decide +kernel
theorem dX7_characterAt_21 : decode cX7_characterAt 21 = .ok (.iconst 0, 1) := by decide +kernel
theorem dX7_characterAt_22 : decode cX7_characterAt 22 = .ok (.ireturn, 1) := by decide +kernel
theorem dX7_putDigit_0 : decode cX7_putDigit 0 = .ok (.aload_n 0, 1) := by decide +kernel
theorem dX7_putDigit_1 : decode cX7_putDigit 1 = .ok (.bipush 48, 2) := by decide +kernel
theorem dX7_putDigit_3 : decode cX7_putDigit 3 = .ok (.iload_n 1, 1) := by decide +kernel
theorem dX7_putDigit_4 : decode cX7_putDigit 4 = .ok (.iadd, 1) := by decide +kernel
theorem dX7_putDigit_5 : decode cX7_putDigit 5 = .ok (.i2c, 1) := by decide +kernel
theorem dX7_putDigit_6 : decode cX7_putDigit 6 = .ok (.invokevirtual 19, 3) := by decide +kernel
theorem dX7_putDigit_9 : decode cX7_putDigit 9 = .ok (.return_, 1) := by decide +kernel
theorem dX7_putLetters_0 : decode cX7_putLetters 0 = .ok (.iconst 0, 1) := by decide +kernel
theorem dX7_putLetters_1 : decode cX7_putLetters 1 = .ok (.istore 5, 2) := by decide +kernel
theorem dX7_putLetters_3 : decode cX7_putLetters 3 = .ok (.iload 5, 2) := by decide +kernel
theorem dX7_putLetters_5 : decode cX7_putLetters 5 = .ok (.iload 4, 2) := by decide +kernel
theorem dX7_putLetters_7 : decode cX7_putLetters 7 = .ok (.if_icmp .ge 22, 3) := by decide +kernel
theorem dX7_putLetters_10 : decode cX7_putLetters 10 = .ok (.aload_n 0, 1) := by decide +kernel
theorem dX7_putLetters_11 : decode cX7_putLetters 11 = .ok (.aload_n 1, 1) := by decide +kernel
theorem dX7_putLetters_12 : decode cX7_putLetters 12 = .ok (.iload_n 2, 1) := by decide +kernel
theorem dX7_putLetters_13 : decode cX7_putLetters 13 = .ok (.iload_n 3, 1) := by decide +kernel
theorem dX7_putLetters_14 : decode cX7_putLetters 14 = .ok (.iload 5, 2) := by decide +kernel
theorem dX7_putLetters_16 : decode cX7_putLetters 16 = .ok (.iadd, 1) := by decide +kernel
theorem dX7_putLetters_17 : decode cX7_putLetters 17 = .ok (.invokevirtual 27, 3) := by decide +kernel
theorem dX7_putLetters_20 : decode cX7_putLetters 20 = .ok (.invokevirtual 19, 3) := by decide +kernel
theorem dX7_putLetters_23 : decode cX7_putLetters 23 = .ok (.iinc 5 1, 3) := by decide +kernel
theorem dX7_putLetters_26 : decode cX7_putLetters 26 = .ok (.goto (-23), 3) := by decide +kernel
theorem dX7_putLetters_29 : decode cX7_putLetters 29 = .ok (.return_, 1) := by decide +kernel
theorem dX7_isWord_0 : decode cX7_isWord 0 = .ok (.aload_n 0, 1) := by decide +kernel
theorem dX7_isWord_1 : decode cX7_isWord 1 = .ok (.getfield 15, 3) := by decide +kernel
theorem dX7_isWord_4 : decode cX7_isWord 4 = .ok (.ifCond .eq 12, 3) := by decide +kernel
theorem dX7_isWord_7 : decode cX7_isWord 7 = .ok (.aload_n 0, 1) := by decide +kernel
theorem dX7_isWord_8 : decode cX7_isWord 8 = .ok (.getfield 15, 3) := by decide +kernel
theorem dX7_isWord_11 : decode cX7_isWord 11 = .ok (.bipush 10, 2) := by decide +kernel
theorem dX7_isWord_13 : decode cX7_isWord 13 = .ok (.if_icmp .le 5, 3) := by decide +kernel
theorem dX7_isWord_16 : decode cX7_isWord 16 = .ok (.iconst 0, 1) := by decide +kernel
theorem dX7_isWord_17 : decode cX7_isWord 17 = .ok (.ireturn, 1) := by decide +kernel
theorem dX7_isWord_18 : decode cX7_isWord 18 = .ok (.iconst 0, 1) := by decide +kernel
theorem dX7_isWord_19 : decode cX7_isWord 19 = .ok (.istore_n 1, 1) := by decide +kernel
theorem dX7_isWord_20 : decode cX7_isWord 20 = .ok (.iload_n 1, 1) := by decide +kernel
theorem dX7_isWord_21 : decode cX7_isWord 21 = .ok (.aload_n 0, 1) := by decide +kernel
theorem dX7_isWord_22 : decode cX7_isWord 22 = .ok (.getfield 15, 3) := by decide +kernel
theorem dX7_isWord_25 : decode cX7_isWord 25 = .ok (.if_icmp .ge 23, 3) := by decide +kernel
theorem dX7_isWord_28 : decode cX7_isWord 28 = .ok (.aload_n 0, 1) := by decide +kernel
theorem dX7_isWord_29 : decode cX7_isWord 29 = .ok (.getfield 9, 3) := by decide +kernel
theorem dX7_isWord_32 : decode cX7_isWord 32 = .ok (.iload_n 1, 1) := by decide +kernel
theorem dX7_isWord_33 : decode cX7_isWord 33 = .ok (.caload, 1) := by decide +kernel
theorem dX7_isWord_34 : decode cX7_isWord 34 = .ok (.invokestatic 33, 3) := by decide +kernel
theorem dX7_isWord_37 : decode cX7_isWord 37 = .ok (.ifCond .ne 5, 3) := by decide +kernel
theorem dX7_isWord_40 : decode cX7_isWord 40 = .ok (.iconst 0, 1) := by decide +kernel
theorem dX7_isWord_41 : decode cX7_isWord 41 = .ok (.ireturn, 1) := by decide +kernel
theorem dX7_isWord_42 : decode cX7_isWord 42 = .ok (.iinc 1 1, 3) := by decide +kernel
theorem dX7_isWord_45 : decode cX7_isWord 45 = .ok (.goto (-25), 3) := by decide +kernel
theorem dX7_isWord_48 : decode cX7_isWord 48 = .ok (.iconst 1, 1) := by decide +kernel
theorem dX7_isWord_49 : decode cX7_isWord 49 = .ok (.ireturn, 1) := by decide +kernel
theorem dX8_init_0 : decode cX8_init 0 = .ok (.aload_n 0, 1) := by decide +kernel
theorem dX8_init_1 : decode cX8_init 1 = .ok (.invokespecial 1, 3) := by decide +kernel
theorem dX8_init_4 : decode cX8_init 4 = .ok (.aload_n 0, 1) := by decide +kernel
theorem dX8_init_5 : decode cX8_init 5 = .ok (.new 7, 3) := by decide +kernel
theorem dX8_init_8 : decode cX8_init 8 = .ok (.dup, 1) := by decide +kernel
theorem dX8_init_9 : decode cX8_init 9 = .ok (.invokespecial 9, 3) := by decide +kernel
theorem dX8_init_12 : decode cX8_init 12 = .ok (.putfield 10, 3) := by decide +kernel
theorem dX8_init_15 : decode cX8_init 15 = .ok (.aload_n 0, 1) := by decide +kernel
theorem dX8_init_16 : decode cX8_init 16 = .ok (.new 7, 3) := by decide +kernel
theorem dX8_init_19 : decode cX8_init 19 = .ok (.dup, 1) := by decide +kernel
theorem dX8_init_20 : decode cX8_init 20 = .ok (.invokespecial 9, 3) := by decide +kernel
theorem dX8_init_23 : decode cX8_init 23 = .ok (.putfield 16, 3) := by decide +kernel
theorem dX8_init_26 : decode cX8_init 26 = .ok (.aload_n 0, 1) := by decide +kernel
theorem dX8_init_27 : decode cX8_init 27 = .ok (.new 7, 3) := by decide +kernel
theorem dX8_init_30 : decode cX8_init 30 = .ok (.dup, 1) := by decide +kernel
theorem dX8_init_31 : decode cX8_init 31 = .ok (.invokespecial 9, 3) := by decide +kernel
theorem dX8_init_34 : decode cX8_init 34 = .ok (.putfield 19, 3) := by decide +kernel
theorem dX8_init_37 : decode cX8_init 37 = .ok (.aload_n 0, 1) := by decide +kernel
theorem dX8_init_38 : decode cX8_init 38 = .ok (.new 22, 3) := by decide +kernel
theorem dX8_init_41 : decode cX8_init 41 = .ok (.dup, 1) := by decide +kernel
theorem dX8_init_42 : decode cX8_init 42 = .ok (.invokespecial 24, 3) := by decide +kernel
theorem dX8_init_45 : decode cX8_init 45 = .ok (.putfield 25, 3) := by decide +kernel
theorem dX8_init_48 : decode cX8_init 48 = .ok (.aload_n 0, 1) := by decide +kernel
theorem dX8_init_49 : decode cX8_init 49 = .ok (.new 29, 3) := by decide +kernel
theorem dX8_init_52 : decode cX8_init 52 = .ok (.dup, 1) := by decide +kernel
theorem dX8_init_53 : decode cX8_init 53 = .ok (.invokespecial 31, 3) := by decide +kernel
theorem dX8_init_56 : decode cX8_init 56 = .ok (.putfield 32, 3) := by decide +kernel
theorem dX8_init_59 : decode cX8_init 59 = .ok (.aload_n 0, 1) := by decide +kernel
theorem dX8_init_60 : decode cX8_init 60 = .ok (.new 36, 3) := by decide +kernel
theorem dX8_init_63 : decode cX8_init 63 = .ok (.dup, 1) := by decide +kernel
theorem dX8_init_64 : decode cX8_init 64 = .ok (.invokespecial 38, 3) := by decide +kernel
theorem dX8_init_67 : decode cX8_init 67 = .ok (.putfield 39, 3) := by decide +kernel
theorem dX8_init_70 : decode cX8_init 70 = .ok (.aload_n 0, 1) := by decide +kernel
theorem dX8_init_71 : decode cX8_init 71 = .ok (.new 43, 3) := by decide +kernel
theorem dX8_init_74 : decode cX8_init 74 = .ok (.dup, 1) := by decide +kernel
theorem dX8_init_75 : decode cX8_init 75 = .ok (.invokespecial 45, 3) := by decide +kernel
theorem dX8_init_78 : decode cX8_init 78 = .ok (.putfield 46, 3) := by decide +kernel
theorem dX8_init_81 : decode cX8_init 81 = .ok (.aload_n 0, 1) := by decide +kernel
theorem dX8_init_82 : decode cX8_init 82 = .ok (.new 50, 3) := by decide +kernel
theorem dX8_init_85 : decode cX8_init 85 = .ok (.dup, 1) := by decide +kernel
theorem dX8_init_86 : decode cX8_init 86 = .ok (.invokespecial 52, 3) := by decide +kernel
theorem dX8_init_89 : decode cX8_init 89 = .ok (.putfield 53, 3) := by decide +kernel
theorem dX8_init_92 : decode cX8_init 92 = .ok (.aload_n 0, 1) := by decide +kernel
theorem dX8_init_93 : decode cX8_init 93 = .ok (.new 22, 3) := by decide +kernel
theorem dX8_init_96 : decode cX8_init 96 = .ok (.dup, 1) := by decide +kernel
theorem dX8_init_97 : decode cX8_init 97 = .ok (.invokespecial 24, 3) := by decide +kernel
theorem dX8_init_100 : decode cX8_init 100 = .ok (.putfield 57, 3) := by decide +kernel
theorem dX8_init_103 : decode cX8_init 103 = .ok (.aload_n 0, 1) := by decide +kernel
theorem dX8_init_104 : decode cX8_init 104 = .ok (.iconst (-1), 1) := by decide +kernel
theorem dX8_init_105 : decode cX8_init 105 = .ok (.putfield 60, 3) := by decide +kernel
theorem dX8_init_108 : decode cX8_init 108 = .ok (.aload_n 0, 1) := by decide +kernel
theorem dX8_init_109 : decode cX8_init 109 = .ok (.iconst 0, 1) := by decide +kernel
theorem dX8_init_110 : decode cX8_init 110 = .ok (.putfield 64, 3) := by decide +kernel
theorem dX8_init_113 : decode cX8_init 113 = .ok (.return_, 1) := by decide +kernel
theorem dX8_append_0 : decode cX8_append 0 = .ok (.aload_n 0, 1) := by decide +kernel
theorem dX8_append_1 : decode cX8_append 1 = .ok (.getfield 25, 3) := by decide +kernel
theorem dX8_append_4 : decode cX8_append 4 = .ok (.invokevirtual 68, 3) := by decide +kernel
theorem dX8_append_7 : decode cX8_append 7 = .ok (.ifCond .eq 13, 3) := by decide +kernel
theorem dX8_append_10 : decode cX8_append 10 = .ok (.new 72, 3) := by decide +kernel
theorem dX8_append_13 : decode cX8_append 13 = .ok (.dup, 1) := by decide +kernel
theorem dX8_append_14 : decode cX8_append 14 = .ok (.ldc 74, 2) := by decide +kernel
theorem dX8_append_16 : decode cX8_append 16 = .ok (.invokespecial 76, 3) := by decide +kernel
theorem dX8_append_19 : decode cX8_append 19 = .ok (.athrow, 1) := by decide +kernel
theorem dX8_append_20 : decode cX8_append 20 = .ok (.aload_n 0, 1) := by decide +kernel
theorem dX8_append_21 : decode cX8_append 21 = .ok (.getfield 25, 3) := by decide +kernel
theorem dX8_append_24 : decode cX8_append 24 = .ok (.iload_n 1, 1) := by decide +kernel
theorem dX8_append_25 : decode cX8_append 25 = .ok (.invokevirtual 79, 3) := by decide +kernel
theorem dX8_append_28 : decode cX8_append 28 = .ok (.aload_n 0, 1) := by decide +kernel
theorem dX8_append_29 : decode cX8_append 29 = .ok (.getfield 25, 3) := by decide +kernel
theorem dX8_append_32 : decode cX8_append 32 = .ok (.invokevirtual 83, 3) := by decide +kernel
theorem dX8_append_35 : decode cX8_append 35 = .ok (.ireturn, 1) := by decide +kernel
theorem dX8_add_0 : decode cX8_add 0 = .ok (.aload_n 0, 1) := by decide +kernel
theorem dX8_add_1 : decode cX8_add 1 = .ok (.getfield 16, 3) := by decide +kernel
theorem dX8_add_4 : decode cX8_add 4 = .ok (.aload_n 0, 1) := by decide +kernel
theorem dX8_add_5 : decode cX8_add 5 = .ok (.getfield 10, 3) := by decide +kernel
theorem dX8_add_8 : decode cX8_add 8 = .ok (.invokevirtual 87, 3) := by decide +kernel
theorem dX8_add_11 : decode cX8_add 11 = .ok (.aload_n 0, 1) := by decide +kernel
theorem dX8_add_12 : decode cX8_add 12 = .ok (.getfield 10, 3) := by decide +kernel
theorem dX8_add_15 : decode cX8_add 15 = .ok (.aload_n 0, 1) := by decide +kernel
theorem dX8_add_16 : decode cX8_add 16 = .ok (.getfield 39, 3) := by decide +kernel
theorem dX8_add_19 : decode cX8_add 19 = .ok (.aload_n 0, 1) := by decide +kernel
theorem dX8_add_20 : decode cX8_add 20 = .ok (.getfield 25, 3) := by decide +kernel
theorem dX8_add_23 : decode cX8_add 23 = .ok (.invokestatic 91, 3) := by decide +kernel
theorem dX8_add_26 : decode cX8_add 26 = .ok (.istore_n 1, 1) := by decide +kernel
theorem dX8_add_27 : decode cX8_add 27 = .ok (.aload_n 0, 1) := by decide +kernel
theorem dX8_add_28 : decode cX8_add 28 = .ok (.getfield 25, 3) := by decide +kernel
theorem dX8_add_31 : decode cX8_add 31 = .ok (.invokevirtual 97, 3) := by decide +kernel
theorem dX8_add_34 : decode cX8_add 34 = .ok (.aload_n 0, 1) := by decide +kernel
theorem dX8_add_35 : decode cX8_add 35 = .ok (.iload_n 1, 1) := by decide +kernel
theorem dX8_add_36 : decode cX8_add 36 = .ok (.invokevirtual 100, 3) := by decide +kernel
theorem dX8_add_39 : decode cX8_add 39 = .ok (.aload_n 0, 1) := by decide +kernel
theorem dX8_add_40 : decode cX8_add 40 = .ok (.getfield 10, 3) := by decide +kernel
theorem dX8_add_43 : decode cX8_add 43 = .ok (.invokevirtual 104, 3) := by decide +kernel
theorem dX8_add_46 : decode cX8_add 46 = .ok (.iconst 1, 1) := by decide +kernel
theorem dX8_add_47 : decode cX8_add 47 = .ok (.isub, 1) := by decide +kernel
theorem dX8_add_48 : decode cX8_add 48 = .ok (.ireturn, 1) := by decide +kernel
theorem dX8_cut_0 : decode cX8_cut 0 = .ok (.aload_n 0, 1) := by decide +kernel
theorem dX8_cut_1 : decode cX8_cut 1 = .ok (.getfield 16, 3) := by decide +kernel
theorem dX8_cut_4 : decode cX8_cut 4 = .ok (.aload_n 0, 1) := by decide +kernel
theorem dX8_cut_5 : decode cX8_cut 5 = .ok (.getfield 10, 3) := by decide +kernel
theorem dX8_cut_8 : decode cX8_cut 8 = .ok (.invokevirtual 87, 3) := by decide +kernel
theorem dX8_cut_11 : decode cX8_cut 11 = .ok (.aload_n 0, 1) := by decide +kernel
theorem dX8_cut_12 : decode cX8_cut 12 = .ok (.aload_n 0, 1) := by decide +kernel
theorem dX8_cut_13 : decode cX8_cut 13 = .ok (.getfield 10, 3) := by decide +kernel
theorem dX8_cut_16 : decode cX8_cut 16 = .ok (.aload_n 0, 1) := by decide +kernel
theorem dX8_cut_17 : decode cX8_cut 17 = .ok (.getfield 39, 3) := by decide +kernel
theorem dX8_cut_20 : decode cX8_cut 20 = .ok (.iload_n 1, 1) := by decide +kernel
theorem dX8_cut_21 : decode cX8_cut 21 = .ok (.invokestatic 107, 3) := by decide +kernel
theorem dX8_cut_24 : decode cX8_cut 24 = .ok (.invokevirtual 100, 3) := by decide +kernel
theorem dX8_cut_27 : decode cX8_cut 27 = .ok (.aload_n 0, 1) := by decide +kernel
theorem dX8_cut_28 : decode cX8_cut 28 = .ok (.getfield 10, 3) := by decide +kernel
theorem dX8_cut_31 : decode cX8_cut 31 = .ok (.invokevirtual 104, 3) := by decide +kernel
theorem dX8_cut_34 : decode cX8_cut 34 = .ok (.ireturn, 1) := by decide +kernel
theorem dX8_change_0 : decode cX8_change 0 = .ok (.aload_n 0, 1) := by decide +kernel
theorem dX8_change_1 : decode cX8_change 1 = .ok (.getfield 16, 3) := by decide +kernel
theorem dX8_change_4 : decode cX8_change 4 = .ok (.aload_n 0, 1) := by decide +kernel
theorem dX8_change_5 : decode cX8_change 5 = .ok (.getfield 10, 3) := by decide +kernel
theorem dX8_change_8 : decode cX8_change 8 = .ok (.invokevirtual 87, 3) := by decide +kernel
theorem dX8_change_11 : decode cX8_change 11 = .ok (.aload_n 0, 1) := by decide +kernel
theorem dX8_change_12 : decode cX8_change 12 = .ok (.aload_n 0, 1) := by decide +kernel
theorem dX8_change_13 : decode cX8_change 13 = .ok (.getfield 10, 3) := by decide +kernel
theorem dX8_change_16 : decode cX8_change 16 = .ok (.aload_n 0, 1) := by decide +kernel
theorem dX8_change_17 : decode cX8_change 17 = .ok (.getfield 39, 3) := by decide +kernel
theorem dX8_change_20 : decode cX8_change 20 = .ok (.iload_n 1, 1) := by decide +kernel
theorem dX8_change_21 : decode cX8_change 21 = .ok (.iload_n 2, 1) := by decide +kernel
theorem dX8_change_22 : decode cX8_change 22 = .ok (.iload_n 3, 1) := by decide +kernel
theorem dX8_change_23 : decode cX8_change 23 = .ok (.invokestatic 111, 3) := by decide +kernel
theorem dX8_change_26 : decode cX8_change 26 = .ok (.invokevirtual 100, 3) := by decide +kernel
theorem dX8_change_29 : decode cX8_change 29 = .ok (.aload_n 0, 1) := by decide +kernel
theorem dX8_change_30 : decode cX8_change 30 = .ok (.getfield 53, 3) := by decide +kernel
theorem dX8_change_33 : decode cX8_change 33 = .ok (.iload_n 1, 1) := by decide +kernel
theorem dX8_change_34 : decode cX8_change 34 = .ok (.iload_n 2, 1) := by decide +kernel
theorem dX8_change_35 : decode cX8_change 35 = .ok (.invokevirtual 115, 3) := by decide +kernel
theorem dX8_change_38 : decode cX8_change 38 = .ok (.ireturn, 1) := by decide +kernel
theorem dX8_swap_0 : decode cX8_swap 0 = .ok (.aload_n 0, 1) := by decide +kernel
theorem dX8_swap_1 : decode cX8_swap 1 = .ok (.getfield 16, 3) := by decide +kernel
theorem dX8_swap_4 : decode cX8_swap 4 = .ok (.aload_n 0, 1) := by decide +kernel
theorem dX8_swap_5 : decode cX8_swap 5 = .ok (.getfield 10, 3) := by decide +kernel
theorem dX8_swap_8 : decode cX8_swap 8 = .ok (.invokevirtual 87, 3) := by decide +kernel
theorem dX8_swap_11 : decode cX8_swap 11 = .ok (.aload_n 0, 1) := by decide +kernel
theorem dX8_swap_12 : decode cX8_swap 12 = .ok (.aload_n 0, 1) := by decide +kernel
theorem dX8_swap_13 : decode cX8_swap 13 = .ok (.getfield 10, 3) := by decide +kernel
theorem dX8_swap_16 : decode cX8_swap 16 = .ok (.aload_n 0, 1) := by decide +kernel
theorem dX8_swap_17 : decode cX8_swap 17 = .ok (.getfield 39, 3) := by decide +kernel
theorem dX8_swap_20 : decode cX8_swap 20 = .ok (.iload_n 1, 1) := by decide +kernel
theorem dX8_swap_21 : decode cX8_swap 21 = .ok (.iload_n 2, 1) := by decide +kernel
theorem dX8_swap_22 : decode cX8_swap 22 = .ok (.invokestatic 119, 3) := by decide +kernel
theorem dX8_swap_25 : decode cX8_swap 25 = .ok (.invokevirtual 100, 3) := by decide +kernel
theorem dX8_swap_28 : decode cX8_swap 28 = .ok (.aload_n 0, 1) := by decide +kernel
theorem dX8_swap_29 : decode cX8_swap 29 = .ok (.getfield 10, 3) := by decide +kernel
theorem dX8_swap_32 : decode cX8_swap 32 = .ok (.iload_n 1, 1) := by decide +kernel
theorem dX8_swap_33 : decode cX8_swap 33 = .ok (.invokevirtual 123, 3) := by decide +kernel
theorem dX8_swap_36 : decode cX8_swap 36 = .ok (.aload_n 0, 1) := by decide +kernel
theorem dX8_swap_37 : decode cX8_swap 37 = .ok (.getfield 10, 3) := by decide +kernel
theorem dX8_swap_40 : decode cX8_swap 40 = .ok (.iload_n 2, 1) := by decide +kernel
theorem dX8_swap_41 : decode cX8_swap 41 = .ok (.invokevirtual 123, 3) := by decide +kernel
theorem dX8_swap_44 : decode cX8_swap 44 = .ok (.invokestatic 127, 3) := by decide +kernel
theorem dX8_swap_47 : decode cX8_swap 47 = .ok (.ireturn, 1) := by decide +kernel
theorem dX8_join_0 : decode cX8_join 0 = .ok (.aload_n 0, 1) := by decide +kernel
theorem dX8_join_1 : decode cX8_join 1 = .ok (.getfield 16, 3) := by decide +kernel
theorem dX8_join_4 : decode cX8_join 4 = .ok (.aload_n 0, 1) := by decide +kernel
theorem dX8_join_5 : decode cX8_join 5 = .ok (.getfield 10, 3) := by decide +kernel
theorem dX8_join_8 : decode cX8_join 8 = .ok (.invokevirtual 87, 3) := by decide +kernel
theorem dX8_join_11 : decode cX8_join 11 = .ok (.aload_n 0, 1) := by decide +kernel
theorem dX8_join_12 : decode cX8_join 12 = .ok (.aload_n 0, 1) := by decide +kernel
theorem dX8_join_13 : decode cX8_join 13 = .ok (.getfield 10, 3) := by decide +kernel
theorem dX8_join_16 : decode cX8_join 16 = .ok (.aload_n 0, 1) := by decide +kernel
theorem dX8_join_17 : decode cX8_join 17 = .ok (.getfield 39, 3) := by decide +kernel
theorem dX8_join_20 : decode cX8_join 20 = .ok (.iload_n 1, 1) := by decide +kernel
theorem dX8_join_21 : decode cX8_join 21 = .ok (.iload_n 2, 1) := by decide +kernel
theorem dX8_join_22 : decode cX8_join 22 = .ok (.invokestatic 132, 3) := by decide +kernel
theorem dX8_join_25 : decode cX8_join 25 = .ok (.invokevirtual 100, 3) := by decide +kernel
theorem dX8_join_28 : decode cX8_join 28 = .ok (.iload_n 2, 1) := by decide +kernel
theorem dX8_join_29 : decode cX8_join 29 = .ok (.iload_n 1, 1) := by decide +kernel
theorem dX8_join_30 : decode cX8_join 30 = .ok (.if_icmp .ge 9, 3) := by decide +kernel
theorem dX8_join_33 : decode cX8_join 33 = .ok (.iload_n 1, 1) := by decide +kernel
theorem dX8_join_34 : decode cX8_join 34 = .ok (.iconst 1, 1) := by decide +kernel
theorem dX8_join_35 : decode cX8_join 35 = .ok (.isub, 1) := by decide +kernel
theorem dX8_join_36 : decode cX8_join 36 = .ok (.goto 4, 3) := by decide +kernel
theorem dX8_join_39 : decode cX8_join 39 = .ok (.iload_n 1, 1) := by decide +kernel
theorem dX8_join_40 : decode cX8_join 40 = .ok (.ireturn, 1) := by decide +kernel
theorem dX8_turn_0 : decode cX8_turn 0 = .ok (.aload_n 0, 1) := by decide +kernel
theorem dX8_turn_1 : decode cX8_turn 1 = .ok (.getfield 16, 3) := by decide +kernel
theorem dX8_turn_4 : decode cX8_turn 4 = .ok (.aload_n 0, 1) := by decide +kernel
theorem dX8_turn_5 : decode cX8_turn 5 = .ok (.getfield 10, 3) := by decide +kernel
theorem dX8_turn_8 : decode cX8_turn 8 = .ok (.invokevirtual 87, 3) := by decide +kernel
theorem dX8_turn_11 : decode cX8_turn 11 = .ok (.aload_n 0, 1) := by decide +kernel
theorem dX8_turn_12 : decode cX8_turn 12 = .ok (.aload_n 0, 1) := by decide +kernel
theorem dX8_turn_13 : decode cX8_turn 13 = .ok (.getfield 10, 3) := by decide +kernel
theorem dX8_turn_16 : decode cX8_turn 16 = .ok (.aload_n 0, 1) := by decide +kernel
theorem dX8_turn_17 : decode cX8_turn 17 = .ok (.getfield 39, 3) := by decide +kernel
theorem dX8_turn_20 : decode cX8_turn 20 = .ok (.iload_n 1, 1) := by decide +kernel
theorem dX8_turn_21 : decode cX8_turn 21 = .ok (.invokestatic 135, 3) := by decide +kernel
theorem dX8_turn_24 : decode cX8_turn 24 = .ok (.invokevirtual 100, 3) := by decide +kernel
theorem dX8_turn_27 : decode cX8_turn 27 = .ok (.aload_n 0, 1) := by decide +kernel
theorem dX8_turn_28 : decode cX8_turn 28 = .ok (.getfield 53, 3) := by decide +kernel
theorem dX8_turn_31 : decode cX8_turn 31 = .ok (.iload_n 1, 1) := by decide +kernel
theorem dX8_turn_32 : decode cX8_turn 32 = .ok (.iconst 0, 1) := by decide +kernel
theorem dX8_turn_33 : decode cX8_turn 33 = .ok (.invokevirtual 115, 3) := by decide +kernel
theorem dX8_turn_36 : decode cX8_turn 36 = .ok (.ireturn, 1) := by decide +kernel
theorem dX8_lineOf_0 : decode cX8_lineOf 0 = .ok (.aload_n 0, 1) := by decide +kernel
theorem dX8_lineOf_1 : decode cX8_lineOf 1 = .ok (.iload_n 1, 1) := by decide +kernel
theorem dX8_lineOf_2 : decode cX8_lineOf 2 = .ok (.invokevirtual 138, 3) := by decide +kernel
theorem dX8_lineOf_5 : decode cX8_lineOf 5 = .ok (.iload_n 2, 1) := by decide +kernel
theorem dX8_lineOf_6 : decode cX8_lineOf 6 = .ok (.tableswitch 82 0 4 #[34, 43, 55, 64, 73], 34) := by decide +kernel
theorem dX8_lineOf_40 : decode cX8_lineOf 40 = .ok (.aload_n 0, 1) := by decide +kernel
theorem dX8_lineOf_41 : decode cX8_lineOf 41 = .ok (.getfield 10, 3) := by decide +kernel
theorem dX8_lineOf_44 : decode cX8_lineOf 44 = .ok (.iload_n 1, 1) := by decide +kernel
theorem dX8_lineOf_45 : decode cX8_lineOf 45 = .ok (.invokevirtual 123, 3) := by decide +kernel
theorem dX8_lineOf_48 : decode cX8_lineOf 48 = .ok (.ireturn, 1) := by decide +kernel
theorem dX8_lineOf_49 : decode cX8_lineOf 49 = .ok (.aload_n 0, 1) := by decide +kernel
theorem dX8_lineOf_50 : decode cX8_lineOf 50 = .ok (.getfield 10, 3) := by decide +kernel
theorem dX8_lineOf_53 : decode cX8_lineOf 53 = .ok (.iload_n 1, 1) := by decide +kernel
theorem dX8_lineOf_54 : decode cX8_lineOf 54 = .ok (.invokevirtual 142, 3) := by decide +kernel
theorem dX8_lineOf_57 : decode cX8_lineOf 57 = .ok (.invokestatic 145, 3) := by decide +kernel
theorem dX8_lineOf_60 : decode cX8_lineOf 60 = .ok (.ireturn, 1) := by decide +kernel
theorem dX8_lineOf_61 : decode cX8_lineOf 61 = .ok (.aload_n 0, 1) := by decide +kernel
theorem dX8_lineOf_62 : decode cX8_lineOf 62 = .ok (.getfield 10, 3) := by decide +kernel
theorem dX8_lineOf_65 : decode cX8_lineOf 65 = .ok (.iload_n 1, 1) := by decide +kernel
theorem dX8_lineOf_66 : decode cX8_lineOf 66 = .ok (.invokevirtual 150, 3) := by decide +kernel
theorem dX8_lineOf_69 : decode cX8_lineOf 69 = .ok (.ireturn, 1) := by decide +kernel
theorem dX8_lineOf_70 : decode cX8_lineOf 70 = .ok (.aload_n 0, 1) := by decide +kernel
theorem dX8_lineOf_71 : decode cX8_lineOf 71 = .ok (.getfield 10, 3) := by decide +kernel
theorem dX8_lineOf_74 : decode cX8_lineOf 74 = .ok (.iload_n 1, 1) := by decide +kernel
theorem dX8_lineOf_75 : decode cX8_lineOf 75 = .ok (.invokevirtual 153, 3) := by decide +kernel
theorem dX8_lineOf_78 : decode cX8_lineOf 78 = .ok (.ireturn, 1) := by decide +kernel
theorem dX8_lineOf_79 : decode cX8_lineOf 79 = .ok (.aload_n 0, 1) := by decide +kernel
theorem dX8_lineOf_80 : decode cX8_lineOf 80 = .ok (.getfield 10, 3) := by decide +kernel
theorem dX8_lineOf_83 : decode cX8_lineOf 83 = .ok (.iload_n 1, 1) := by decide +kernel
theorem dX8_lineOf_84 : decode cX8_lineOf 84 = .ok (.invokestatic 156, 3) := by decide +kernel
theorem dX8_lineOf_87 : decode cX8_lineOf 87 = .ok (.ireturn, 1) := by decide +kernel
theorem dX8_lineOf_88 : decode cX8_lineOf 88 = .ok (.new 162, 3) := by decide +kernel
theorem dX8_lineOf_91 : decode cX8_lineOf 91 = .ok (.dup, 1) := by decide +kernel
theorem dX8_lineOf_92 : decode cX8_lineOf 92 = .ok (.ldc 164, 2) := by decide +kernel
theorem dX8_lineOf_94 : decode cX8_lineOf 94 = .ok (.invokespecial 166, 3) := by decide +kernel
theorem dX8_lineOf_97 : decode cX8_lineOf 97 = .ok (.athrow, 1) := by decide +kernel
theorem dX8_letter_0 : decode cX8_letter 0 = .ok (.aload_n 0, 1) := by decide +kernel
theorem dX8_letter_1 : decode cX8_letter 1 = .ok (.iload_n 1, 1) := by decide +kernel
theorem dX8_letter_2 : decode cX8_letter 2 = .ok (.iload_n 2, 1) := by decide +kernel
theorem dX8_letter_3 : decode cX8_letter 3 = .ok (.invokevirtual 167, 3) := by decide +kernel
theorem dX8_letter_6 : decode cX8_letter 6 = .ok (.aload_n 0, 1) := by decide +kernel
theorem dX8_letter_7 : decode cX8_letter 7 = .ok (.getfield 10, 3) := by decide +kernel
theorem dX8_letter_10 : decode cX8_letter 10 = .ok (.iload_n 1, 1) := by decide +kernel
theorem dX8_letter_11 : decode cX8_letter 11 = .ok (.iload_n 2, 1) := by decide +kernel
theorem dX8_letter_12 : decode cX8_letter 12 = .ok (.invokevirtual 171, 3) := by decide +kernel
theorem dX8_letter_15 : decode cX8_letter 15 = .ok (.ireturn, 1) := by decide +kernel
theorem dX8_ending_0 : decode cX8_ending 0 = .ok (.aload_n 0, 1) := by decide +kernel
theorem dX8_ending_1 : decode cX8_ending 1 = .ok (.iload_n 1, 1) := by decide +kernel
theorem dX8_ending_2 : decode cX8_ending 2 = .ok (.invokevirtual 175, 3) := by decide +kernel
theorem dX8_ending_5 : decode cX8_ending 5 = .ok (.iload_n 2, 1) := by decide +kernel
theorem dX8_ending_6 : decode cX8_ending 6 = .ok (.ifCond .eq 14, 3) := by decide +kernel
theorem dX8_ending_9 : decode cX8_ending 9 = .ok (.aload_n 0, 1) := by decide +kernel
theorem dX8_ending_10 : decode cX8_ending 10 = .ok (.getfield 53, 3) := by decide +kernel
theorem dX8_ending_13 : decode cX8_ending 13 = .ok (.iload_n 1, 1) := by decide +kernel
theorem dX8_ending_14 : decode cX8_ending 14 = .ok (.invokevirtual 178, 3) := by decide +kernel
theorem dX8_ending_17 : decode cX8_ending 17 = .ok (.goto 11, 3) := by decide +kernel
theorem dX8_ending_20 : decode cX8_ending 20 = .ok (.aload_n 0, 1) := by decide +kernel
theorem dX8_ending_21 : decode cX8_ending 21 = .ok (.getfield 53, 3) := by decide +kernel
theorem dX8_ending_24 : decode cX8_ending 24 = .ok (.iload_n 1, 1) := by decide +kernel
theorem dX8_ending_25 : decode cX8_ending 25 = .ok (.invokevirtual 181, 3) := by decide +kernel
theorem dX8_ending_28 : decode cX8_ending 28 = .ok (.ireturn, 1) := by decide +kernel
theorem dX8_rank_0 : decode cX8_rank 0 = .ok (.aload_n 0, 1) := by decide +kernel
theorem dX8_rank_1 : decode cX8_rank 1 = .ok (.iload_n 1, 1) := by decide +kernel
theorem dX8_rank_2 : decode cX8_rank 2 = .ok (.iload_n 2, 1) := by decide +kernel
theorem dX8_rank_3 : decode cX8_rank 3 = .ok (.invokevirtual 167, 3) := by decide +kernel
theorem dX8_rank_6 : decode cX8_rank 6 = .ok (.aload_n 0, 1) := by decide +kernel
theorem dX8_rank_7 : decode cX8_rank 7 = .ok (.getfield 53, 3) := by decide +kernel
theorem dX8_rank_10 : decode cX8_rank 10 = .ok (.iload_n 1, 1) := by decide +kernel
theorem dX8_rank_11 : decode cX8_rank 11 = .ok (.iload_n 2, 1) := by decide +kernel
theorem dX8_rank_12 : decode cX8_rank 12 = .ok (.invokevirtual 115, 3) := by decide +kernel
theorem dX8_rank_15 : decode cX8_rank 15 = .ok (.ireturn, 1) := by decide +kernel
theorem dX8_rankAgain_0 : decode cX8_rankAgain 0 = .ok (.aload_n 0, 1) := by decide +kernel
theorem dX8_rankAgain_1 : decode cX8_rankAgain 1 = .ok (.iload_n 1, 1) := by decide +kernel
theorem dX8_rankAgain_2 : decode cX8_rankAgain 2 = .ok (.iload_n 2, 1) := by decide +kernel
theorem dX8_rankAgain_3 : decode cX8_rankAgain 3 = .ok (.invokevirtual 167, 3) := by decide +kernel
theorem dX8_rankAgain_6 : decode cX8_rankAgain 6 = .ok (.aload_n 0, 1) := by decide +kernel
theorem dX8_rankAgain_7 : decode cX8_rankAgain 7 = .ok (.getfield 10, 3) := by decide +kernel
theorem dX8_rankAgain_10 : decode cX8_rankAgain 10 = .ok (.iload_n 1, 1) := by decide +kernel
theorem dX8_rankAgain_11 : decode cX8_rankAgain 11 = .ok (.iload_n 2, 1) := by decide +kernel
theorem dX8_rankAgain_12 : decode cX8_rankAgain 12 = .ok (.invokevirtual 184, 3) := by decide +kernel
theorem dX8_rankAgain_15 : decode cX8_rankAgain 15 = .ok (.ireturn, 1) := by decide +kernel
theorem dX8_common_0 : decode cX8_common 0 = .ok (.aload_n 0, 1) := by decide +kernel
theorem dX8_common_1 : decode cX8_common 1 = .ok (.iload_n 1, 1) := by decide +kernel
theorem dX8_common_2 : decode cX8_common 2 = .ok (.invokevirtual 175, 3) := by decide +kernel
theorem dX8_common_5 : decode cX8_common 5 = .ok (.iload_n 1, 1) := by decide +kernel
theorem dX8_common_6 : decode cX8_common 6 = .ok (.ifCond .ne 13, 3) := by decide +kernel
theorem dX8_common_9 : decode cX8_common 9 = .ok (.new 187, 3) := by decide +kernel
theorem dX8_common_12 : decode cX8_common 12 = .ok (.dup, 1) := by decide +kernel
theorem dX8_common_13 : decode cX8_common 13 = .ok (.ldc 189, 2) := by decide +kernel
theorem dX8_common_15 : decode cX8_common 15 = .ok (.invokespecial 191, 3) := by decide +kernel
theorem dX8_common_18 : decode cX8_common 18 = .ok (.athrow, 1) := by decide +kernel
theorem dX8_common_19 : decode cX8_common 19 = .ok (.aload_n 0, 1) := by decide +kernel
theorem dX8_common_20 : decode cX8_common 20 = .ok (.getfield 53, 3) := by decide +kernel
theorem dX8_common_23 : decode cX8_common 23 = .ok (.iload_n 1, 1) := by decide +kernel
theorem dX8_common_24 : decode cX8_common 24 = .ok (.invokevirtual 192, 3) := by decide +kernel
theorem dX8_common_27 : decode cX8_common 27 = .ok (.ireturn, 1) := by decide +kernel
theorem dX8_commonOf_0 : decode cX8_commonOf 0 = .ok (.aload_n 0, 1) := by decide +kernel
theorem dX8_commonOf_1 : decode cX8_commonOf 1 = .ok (.iload_n 1, 1) := by decide +kernel
theorem dX8_commonOf_2 : decode cX8_commonOf 2 = .ok (.iload_n 2, 1) := by decide +kernel
theorem dX8_commonOf_3 : decode cX8_commonOf 3 = .ok (.invokevirtual 167, 3) := by decide +kernel
theorem dX8_commonOf_6 : decode cX8_commonOf 6 = .ok (.aload_n 0, 1) := by decide +kernel
theorem dX8_commonOf_7 : decode cX8_commonOf 7 = .ok (.iload_n 3, 1) := by decide +kernel
theorem dX8_commonOf_8 : decode cX8_commonOf 8 = .ok (.iload 4, 2) := by decide +kernel
theorem dX8_commonOf_10 : decode cX8_commonOf 10 = .ok (.invokevirtual 167, 3) := by decide +kernel
theorem dX8_commonOf_13 : decode cX8_commonOf 13 = .ok (.aload_n 0, 1) := by decide +kernel
theorem dX8_commonOf_14 : decode cX8_commonOf 14 = .ok (.getfield 10, 3) := by decide +kernel
theorem dX8_commonOf_17 : decode cX8_commonOf 17 = .ok (.iload_n 1, 1) := by decide +kernel
theorem dX8_commonOf_18 : decode cX8_commonOf 18 = .ok (.iload_n 2, 1) := by decide +kernel
theorem dX8_commonOf_19 : decode cX8_commonOf 19 = .ok (.iload_n 3, 1) := by decide +kernel
theorem dX8_commonOf_20 : decode cX8_commonOf 20 = .ok (.iload 4, 2) := by decide +kernel
theorem dX8_commonOf_22 : decode cX8_commonOf 22 = .ok (.invokevirtual 195, 3) := by decide +kernel
theorem dX8_commonOf_25 : decode cX8_commonOf 25 = .ok (.ireturn, 1) := by decide +kernel
theorem dX8_longest_0 : decode cX8_longest 0 = .ok (.aload_n 0, 1) := by decide +kernel
theorem dX8_longest_1 : decode cX8_longest 1 = .ok (.getfield 53, 3) := by decide +kernel
theorem dX8_longest_4 : decode cX8_longest 4 = .ok (.invokevirtual 199, 3) := by decide +kernel
theorem dX8_longest_7 : decode cX8_longest 7 = .ok (.ireturn, 1) := by decide +kernel
theorem dX8_longestRank_0 : decode cX8_longestRank 0 = .ok (.aload_n 0, 1) := by decide +kernel
theorem dX8_longestRank_1 : decode cX8_longestRank 1 = .ok (.invokevirtual 202, 3) := by decide +kernel
theorem dX8_longestRank_4 : decode cX8_longestRank 4 = .ok (.aload_n 0, 1) := by decide +kernel
theorem dX8_longestRank_5 : decode cX8_longestRank 5 = .ok (.getfield 53, 3) := by decide +kernel
theorem dX8_longestRank_8 : decode cX8_longestRank 8 = .ok (.invokevirtual 205, 3) := by decide +kernel
theorem dX8_longestRank_11 : decode cX8_longestRank 11 = .ok (.ireturn, 1) := by decide +kernel
theorem dX8_pieces_0 : decode cX8_pieces 0 = .ok (.aload_n 0, 1) := by decide +kernel
theorem dX8_pieces_1 : decode cX8_pieces 1 = .ok (.getfield 53, 3) := by decide +kernel
theorem dX8_pieces_4 : decode cX8_pieces 4 = .ok (.aload_n 0, 1) := by decide +kernel
theorem dX8_pieces_5 : decode cX8_pieces 5 = .ok (.getfield 10, 3) := by decide +kernel
theorem dX8_pieces_8 : decode cX8_pieces 8 = .ok (.invokevirtual 208, 3) := by decide +kernel
theorem dX8_pieces_11 : decode cX8_pieces 11 = .ok (.ireturn, 1) := by decide +kernel
theorem dX8_piecesAgain_0 : decode cX8_piecesAgain 0 = .ok (.aload_n 0, 1) := by decide +kernel
theorem dX8_piecesAgain_1 : decode cX8_piecesAgain 1 = .ok (.getfield 10, 3) := by decide +kernel
theorem dX8_piecesAgain_4 : decode cX8_piecesAgain 4 = .ok (.invokestatic 212, 3) := by decide +kernel
theorem dX8_piecesAgain_7 : decode cX8_piecesAgain 7 = .ok (.ireturn, 1) := by decide +kernel
theorem dX8_kinds_0 : decode cX8_kinds 0 = .ok (.aload_n 0, 1) := by decide +kernel
theorem dX8_kinds_1 : decode cX8_kinds 1 = .ok (.getfield 10, 3) := by decide +kernel
theorem dX8_kinds_4 : decode cX8_kinds 4 = .ok (.invokevirtual 215, 3) := by decide +kernel
theorem dX8_kinds_7 : decode cX8_kinds 7 = .ok (.ireturn, 1) := by decide +kernel
theorem dX8_finds_0 : decode cX8_finds 0 = .ok (.aload_n 0, 1) := by decide +kernel
theorem dX8_finds_1 : decode cX8_finds 1 = .ok (.invokevirtual 218, 3) := by decide +kernel
theorem dX8_finds_4 : decode cX8_finds 4 = .ok (.aload_n 0, 1) := by decide +kernel
theorem dX8_finds_5 : decode cX8_finds 5 = .ok (.getfield 53, 3) := by decide +kernel
theorem dX8_finds_8 : decode cX8_finds 8 = .ok (.aload_n 0, 1) := by decide +kernel
theorem dX8_finds_9 : decode cX8_finds 9 = .ok (.getfield 10, 3) := by decide +kernel
theorem dX8_finds_12 : decode cX8_finds 12 = .ok (.aload_n 0, 1) := by decide +kernel
theorem dX8_finds_13 : decode cX8_finds 13 = .ok (.getfield 25, 3) := by decide +kernel
theorem dX8_finds_16 : decode cX8_finds 16 = .ok (.invokevirtual 221, 3) := by decide +kernel
theorem dX8_finds_19 : decode cX8_finds 19 = .ok (.aload_n 0, 1) := by decide +kernel
theorem dX8_finds_20 : decode cX8_finds 20 = .ok (.getfield 53, 3) := by decide +kernel
theorem dX8_finds_23 : decode cX8_finds 23 = .ok (.aload_n 0, 1) := by decide +kernel
theorem dX8_finds_24 : decode cX8_finds 24 = .ok (.getfield 10, 3) := by decide +kernel
theorem dX8_finds_27 : decode cX8_finds 27 = .ok (.aload_n 0, 1) := by decide +kernel
theorem dX8_finds_28 : decode cX8_finds 28 = .ok (.getfield 25, 3) := by decide +kernel
theorem dX8_finds_31 : decode cX8_finds 31 = .ok (.invokevirtual 225, 3) := by decide +kernel
theorem dX8_finds_34 : decode cX8_finds 34 = .ok (.isub, 1) := by decide +kernel
theorem dX8_finds_35 : decode cX8_finds 35 = .ok (.ireturn, 1) := by decide +kernel
theorem dX8_findsAgain_0 : decode cX8_findsAgain 0 = .ok (.aload_n 0, 1) := by decide +kernel
theorem dX8_findsAgain_1 : decode cX8_findsAgain 1 = .ok (.invokevirtual 218, 3) := by decide +kernel
theorem dX8_findsAgain_4 : decode cX8_findsAgain 4 = .ok (.aload_n 0, 1) := by decide +kernel
theorem dX8_findsAgain_5 : decode cX8_findsAgain 5 = .ok (.getfield 10, 3) := by decide +kernel
theorem dX8_findsAgain_8 : decode cX8_findsAgain 8 = .ok (.aload_n 0, 1) := by decide +kernel
theorem dX8_findsAgain_9 : decode cX8_findsAgain 9 = .ok (.getfield 25, 3) := by decide +kernel
theorem dX8_findsAgain_12 : decode cX8_findsAgain 12 = .ok (.invokestatic 228, 3) := by decide +kernel
theorem dX8_findsAgain_15 : decode cX8_findsAgain 15 = .ok (.ireturn, 1) := by decide +kernel
theorem dX8_firstFind_0 : decode cX8_firstFind 0 = .ok (.aload_n 0, 1) := by decide +kernel
theorem dX8_firstFind_1 : decode cX8_firstFind 1 = .ok (.invokevirtual 218, 3) := by decide +kernel
theorem dX8_firstFind_4 : decode cX8_firstFind 4 = .ok (.aload_n 0, 1) := by decide +kernel
theorem dX8_firstFind_5 : decode cX8_firstFind 5 = .ok (.getfield 53, 3) := by decide +kernel
theorem dX8_firstFind_8 : decode cX8_firstFind 8 = .ok (.aload_n 0, 1) := by decide +kernel
theorem dX8_firstFind_9 : decode cX8_firstFind 9 = .ok (.getfield 10, 3) := by decide +kernel
theorem dX8_firstFind_12 : decode cX8_firstFind 12 = .ok (.aload_n 0, 1) := by decide +kernel
theorem dX8_firstFind_13 : decode cX8_firstFind 13 = .ok (.getfield 25, 3) := by decide +kernel
theorem dX8_firstFind_16 : decode cX8_firstFind 16 = .ok (.invokevirtual 225, 3) := by decide +kernel
theorem dX8_firstFind_19 : decode cX8_firstFind 19 = .ok (.istore_n 1, 1) := by decide +kernel
theorem dX8_firstFind_20 : decode cX8_firstFind 20 = .ok (.iload_n 1, 1) := by decide +kernel
theorem dX8_firstFind_21 : decode cX8_firstFind 21 = .ok (.aload_n 0, 1) := by decide +kernel
theorem dX8_firstFind_22 : decode cX8_firstFind 22 = .ok (.getfield 53, 3) := by decide +kernel
theorem dX8_firstFind_25 : decode cX8_firstFind 25 = .ok (.aload_n 0, 1) := by decide +kernel
theorem dX8_firstFind_26 : decode cX8_firstFind 26 = .ok (.getfield 10, 3) := by decide +kernel
theorem dX8_firstFind_29 : decode cX8_firstFind 29 = .ok (.aload_n 0, 1) := by decide +kernel
theorem dX8_firstFind_30 : decode cX8_firstFind 30 = .ok (.getfield 25, 3) := by decide +kernel
theorem dX8_firstFind_33 : decode cX8_firstFind 33 = .ok (.invokevirtual 221, 3) := by decide +kernel
theorem dX8_firstFind_36 : decode cX8_firstFind 36 = .ok (.if_icmp .ne 13, 3) := by decide +kernel
theorem dX8_firstFind_39 : decode cX8_firstFind 39 = .ok (.new 187, 3) := by decide +kernel
theorem dX8_firstFind_42 : decode cX8_firstFind 42 = .ok (.dup, 1) := by decide +kernel
theorem dX8_firstFind_43 : decode cX8_firstFind 43 = .ok (.ldc 231, 2) := by decide +kernel
theorem dX8_firstFind_45 : decode cX8_firstFind 45 = .ok (.invokespecial 191, 3) := by decide +kernel
theorem dX8_firstFind_48 : decode cX8_firstFind 48 = .ok (.athrow, 1) := by decide +kernel
theorem dX8_firstFind_49 : decode cX8_firstFind 49 = .ok (.iload_n 1, 1) := by decide +kernel
theorem dX8_firstFind_50 : decode cX8_firstFind 50 = .ok (.ireturn, 1) := by decide +kernel
theorem dX8_isLine_0 : decode cX8_isLine 0 = .ok (.aload_n 0, 1) := by decide +kernel
theorem dX8_isLine_1 : decode cX8_isLine 1 = .ok (.invokevirtual 218, 3) := by decide +kernel
theorem dX8_isLine_4 : decode cX8_isLine 4 = .ok (.aload_n 0, 1) := by decide +kernel
theorem dX8_isLine_5 : decode cX8_isLine 5 = .ok (.getfield 10, 3) := by decide +kernel
theorem dX8_isLine_8 : decode cX8_isLine 8 = .ok (.aload_n 0, 1) := by decide +kernel
theorem dX8_isLine_9 : decode cX8_isLine 9 = .ok (.getfield 25, 3) := by decide +kernel
theorem dX8_isLine_12 : decode cX8_isLine 12 = .ok (.invokestatic 233, 3) := by decide +kernel
theorem dX8_isLine_15 : decode cX8_isLine 15 = .ok (.ireturn, 1) := by decide +kernel
theorem dX8_shared_0 : decode cX8_shared 0 = .ok (.aload_n 0, 1) := by decide +kernel
theorem dX8_shared_1 : decode cX8_shared 1 = .ok (.iload_n 1, 1) := by decide +kernel
theorem dX8_shared_2 : decode cX8_shared 2 = .ok (.invokevirtual 138, 3) := by decide +kernel
theorem dX8_shared_5 : decode cX8_shared 5 = .ok (.aload_n 0, 1) := by decide +kernel
theorem dX8_shared_6 : decode cX8_shared 6 = .ok (.iload_n 2, 1) := by decide +kernel
theorem dX8_shared_7 : decode cX8_shared 7 = .ok (.invokevirtual 138, 3) := by decide +kernel
theorem dX8_shared_10 : decode cX8_shared 10 = .ok (.aload_n 0, 1) := by decide +kernel
theorem dX8_shared_11 : decode cX8_shared 11 = .ok (.getfield 10, 3) := by decide +kernel
theorem dX8_shared_14 : decode cX8_shared 14 = .ok (.iload_n 1, 1) := by decide +kernel
theorem dX8_shared_15 : decode cX8_shared 15 = .ok (.iload_n 2, 1) := by decide +kernel
theorem dX8_shared_16 : decode cX8_shared 16 = .ok (.invokestatic 237, 3) := by decide +kernel
theorem dX8_shared_19 : decode cX8_shared 19 = .ok (.ireturn, 1) := by decide +kernel
theorem dX8_alone_0 : decode cX8_alone 0 = .ok (.aload_n 0, 1) := by decide +kernel
theorem dX8_alone_1 : decode cX8_alone 1 = .ok (.iload_n 1, 1) := by decide +kernel
theorem dX8_alone_2 : decode cX8_alone 2 = .ok (.invokevirtual 138, 3) := by decide +kernel
theorem dX8_alone_5 : decode cX8_alone 5 = .ok (.aload_n 0, 1) := by decide +kernel
theorem dX8_alone_6 : decode cX8_alone 6 = .ok (.getfield 10, 3) := by decide +kernel
theorem dX8_alone_9 : decode cX8_alone 9 = .ok (.iload_n 1, 1) := by decide +kernel
theorem dX8_alone_10 : decode cX8_alone 10 = .ok (.invokestatic 241, 3) := by decide +kernel
theorem dX8_alone_13 : decode cX8_alone 13 = .ok (.istore_n 2, 1) := by decide +kernel
theorem dX8_alone_14 : decode cX8_alone 14 = .ok (.aload_n 0, 1) := by decide +kernel
theorem dX8_alone_15 : decode cX8_alone 15 = .ok (.iload_n 2, 1) := by decide +kernel
theorem dX8_alone_16 : decode cX8_alone 16 = .ok (.invokevirtual 244, 3) := by decide +kernel
theorem dX8_alone_19 : decode cX8_alone 19 = .ok (.iload_n 2, 1) := by decide +kernel
theorem dX8_alone_20 : decode cX8_alone 20 = .ok (.ireturn, 1) := by decide +kernel
theorem dX8_alonePlace_0 : decode cX8_alonePlace 0 = .ok (.aload_n 0, 1) := by decide +kernel
theorem dX8_alonePlace_1 : decode cX8_alonePlace 1 = .ok (.iload_n 1, 1) := by decide +kernel
theorem dX8_alonePlace_2 : decode cX8_alonePlace 2 = .ok (.invokevirtual 138, 3) := by decide +kernel
theorem dX8_alonePlace_5 : decode cX8_alonePlace 5 = .ok (.aload_n 0, 1) := by decide +kernel
theorem dX8_alonePlace_6 : decode cX8_alonePlace 6 = .ok (.getfield 10, 3) := by decide +kernel
theorem dX8_alonePlace_9 : decode cX8_alonePlace 9 = .ok (.iload_n 1, 1) := by decide +kernel
theorem dX8_alonePlace_10 : decode cX8_alonePlace 10 = .ok (.invokestatic 241, 3) := by decide +kernel
theorem dX8_alonePlace_13 : decode cX8_alonePlace 13 = .ok (.istore_n 2, 1) := by decide +kernel
theorem dX8_alonePlace_14 : decode cX8_alonePlace 14 = .ok (.aload_n 0, 1) := by decide +kernel
theorem dX8_alonePlace_15 : decode cX8_alonePlace 15 = .ok (.iload_n 2, 1) := by decide +kernel
theorem dX8_alonePlace_16 : decode cX8_alonePlace 16 = .ok (.invokevirtual 244, 3) := by decide +kernel
theorem dX8_alonePlace_19 : decode cX8_alonePlace 19 = .ok (.aload_n 0, 1) := by decide +kernel
theorem dX8_alonePlace_20 : decode cX8_alonePlace 20 = .ok (.getfield 10, 3) := by decide +kernel
theorem dX8_alonePlace_23 : decode cX8_alonePlace 23 = .ok (.iload_n 1, 1) := by decide +kernel
theorem dX8_alonePlace_24 : decode cX8_alonePlace 24 = .ok (.iload_n 2, 1) := by decide +kernel
theorem dX8_alonePlace_25 : decode cX8_alonePlace 25 = .ok (.invokestatic 247, 3) := by decide +kernel
theorem dX8_alonePlace_28 : decode cX8_alonePlace 28 = .ok (.ireturn, 1) := by decide +kernel
theorem dX8_isTurned_0 : decode cX8_isTurned 0 = .ok (.aload_n 0, 1) := by decide +kernel
theorem dX8_isTurned_1 : decode cX8_isTurned 1 = .ok (.iload_n 1, 1) := by decide +kernel
theorem dX8_isTurned_2 : decode cX8_isTurned 2 = .ok (.invokevirtual 138, 3) := by decide +kernel
theorem dX8_isTurned_5 : decode cX8_isTurned 5 = .ok (.aload_n 0, 1) := by decide +kernel
theorem dX8_isTurned_6 : decode cX8_isTurned 6 = .ok (.iload_n 2, 1) := by decide +kernel
theorem dX8_isTurned_7 : decode cX8_isTurned 7 = .ok (.invokevirtual 138, 3) := by decide +kernel
theorem dX8_isTurned_10 : decode cX8_isTurned 10 = .ok (.aload_n 0, 1) := by decide +kernel
theorem dX8_isTurned_11 : decode cX8_isTurned 11 = .ok (.getfield 10, 3) := by decide +kernel
theorem dX8_isTurned_14 : decode cX8_isTurned 14 = .ok (.iload_n 1, 1) := by decide +kernel
theorem dX8_isTurned_15 : decode cX8_isTurned 15 = .ok (.iload_n 2, 1) := by decide +kernel
theorem dX8_isTurned_16 : decode cX8_isTurned 16 = .ok (.invokevirtual 250, 3) := by decide +kernel
theorem dX8_isTurned_19 : decode cX8_isTurned 19 = .ok (.ireturn, 1) := by decide +kernel
theorem dX8_reason_0 : decode cX8_reason 0 = .ok (.iload_n 1, 1) := by decide +kernel
theorem dX8_reason_1 : decode cX8_reason 1 = .ok (.ifCond .lt 8, 3) := by decide +kernel
theorem dX8_reason_4 : decode cX8_reason 4 = .ok (.iload_n 1, 1) := by decide +kernel
theorem dX8_reason_5 : decode cX8_reason 5 = .ok (.iconst 3, 1) := by decide +kernel
theorem dX8_reason_6 : decode cX8_reason 6 = .ok (.if_icmp .lt 14, 3) := by decide +kernel
theorem dX8_reason_9 : decode cX8_reason 9 = .ok (.new 162, 3) := by decide +kernel
theorem dX8_reason_12 : decode cX8_reason 12 = .ok (.dup, 1) := by decide +kernel
theorem dX8_reason_13 : decode cX8_reason 13 = .ok (.ldc_w 267, 3) := by decide +kernel
theorem dX8_reason_16 : decode cX8_reason 16 = .ok (.invokespecial 166, 3) := by decide +kernel
theorem dX8_reason_19 : decode cX8_reason 19 = .ok (.athrow, 1) := by decide +kernel
theorem dX8_reason_20 : decode cX8_reason 20 = .ok (.iload_n 1, 1) := by decide +kernel
theorem dX8_reason_21 : decode cX8_reason 21 = .ok (.aload_n 0, 1) := by decide +kernel
theorem dX8_reason_22 : decode cX8_reason 22 = .ok (.getfield 39, 3) := by decide +kernel
theorem dX8_reason_25 : decode cX8_reason 25 = .ok (.invokevirtual 269, 3) := by decide +kernel
theorem dX8_reason_28 : decode cX8_reason 28 = .ok (.if_icmp .lt 14, 3) := by decide +kernel
theorem dX8_reason_31 : decode cX8_reason 31 = .ok (.new 187, 3) := by decide +kernel
theorem dX8_reason_34 : decode cX8_reason 34 = .ok (.dup, 1) := by decide +kernel
theorem dX8_reason_35 : decode cX8_reason 35 = .ok (.ldc_w 272, 3) := by decide +kernel
theorem dX8_reason_38 : decode cX8_reason 38 = .ok (.invokespecial 191, 3) := by decide +kernel
theorem dX8_reason_41 : decode cX8_reason 41 = .ok (.athrow, 1) := by decide +kernel
theorem dX8_reason_42 : decode cX8_reason 42 = .ok (.iload_n 2, 1) := by decide +kernel
theorem dX8_reason_43 : decode cX8_reason 43 = .ok (.ifCond .eq 14, 3) := by decide +kernel
theorem dX8_reason_46 : decode cX8_reason 46 = .ok (.aload_n 0, 1) := by decide +kernel
theorem dX8_reason_47 : decode cX8_reason 47 = .ok (.getfield 39, 3) := by decide +kernel
theorem dX8_reason_50 : decode cX8_reason 50 = .ok (.iload_n 1, 1) := by decide +kernel
theorem dX8_reason_51 : decode cX8_reason 51 = .ok (.invokevirtual 274, 3) := by decide +kernel
theorem dX8_reason_54 : decode cX8_reason 54 = .ok (.goto 11, 3) := by decide +kernel
theorem dX8_reason_57 : decode cX8_reason 57 = .ok (.aload_n 0, 1) := by decide +kernel
theorem dX8_reason_58 : decode cX8_reason 58 = .ok (.getfield 39, 3) := by decide +kernel
theorem dX8_reason_61 : decode cX8_reason 61 = .ok (.iload_n 1, 1) := by decide +kernel
theorem dX8_reason_62 : decode cX8_reason 62 = .ok (.invokevirtual 277, 3) := by decide +kernel
theorem dX8_reason_65 : decode cX8_reason 65 = .ok (.ireturn, 1) := by decide +kernel
theorem dX8_write_0 : decode cX8_write 0 = .ok (.aload_n 0, 1) := by decide +kernel
theorem dX8_write_1 : decode cX8_write 1 = .ok (.iload_n 1, 1) := by decide +kernel
theorem dX8_write_2 : decode cX8_write 2 = .ok (.invokevirtual 175, 3) := by decide +kernel
theorem dX8_write_5 : decode cX8_write 5 = .ok (.aload_n 0, 1) := by decide +kernel
theorem dX8_write_6 : decode cX8_write 6 = .ok (.getfield 53, 3) := by decide +kernel
theorem dX8_write_9 : decode cX8_write 9 = .ok (.iload_n 1, 1) := by decide +kernel
theorem dX8_write_10 : decode cX8_write 10 = .ok (.invokevirtual 181, 3) := by decide +kernel
theorem dX8_write_13 : decode cX8_write 13 = .ok (.istore_n 2, 1) := by decide +kernel
theorem dX8_write_14 : decode cX8_write 14 = .ok (.aload_n 0, 1) := by decide +kernel
theorem dX8_write_15 : decode cX8_write 15 = .ok (.getfield 53, 3) := by decide +kernel
theorem dX8_write_18 : decode cX8_write 18 = .ok (.iload_n 1, 1) := by decide +kernel
theorem dX8_write_19 : decode cX8_write 19 = .ok (.invokevirtual 178, 3) := by decide +kernel
theorem dX8_write_22 : decode cX8_write 22 = .ok (.istore_n 3, 1) := by decide +kernel
theorem dX8_write_23 : decode cX8_write 23 = .ok (.aload_n 0, 1) := by decide +kernel
theorem dX8_write_24 : decode cX8_write 24 = .ok (.getfield 57, 3) := by decide +kernel
theorem dX8_write_27 : decode cX8_write 27 = .ok (.invokevirtual 97, 3) := by decide +kernel
theorem dX8_write_30 : decode cX8_write 30 = .ok (.aload_n 0, 1) := by decide +kernel
theorem dX8_write_31 : decode cX8_write 31 = .ok (.getfield 57, 3) := by decide +kernel
theorem dX8_write_34 : decode cX8_write 34 = .ok (.iload_n 2, 1) := by decide +kernel
theorem dX8_write_35 : decode cX8_write 35 = .ok (.invokevirtual 280, 3) := by decide +kernel
theorem dX8_write_38 : decode cX8_write 38 = .ok (.aload_n 0, 1) := by decide +kernel
theorem dX8_write_39 : decode cX8_write 39 = .ok (.getfield 57, 3) := by decide +kernel
theorem dX8_write_42 : decode cX8_write 42 = .ok (.bipush 47, 2) := by decide +kernel
theorem dX8_write_44 : decode cX8_write 44 = .ok (.invokevirtual 79, 3) := by decide +kernel
theorem dX8_write_47 : decode cX8_write 47 = .ok (.aload_n 0, 1) := by decide +kernel
theorem dX8_write_48 : decode cX8_write 48 = .ok (.getfield 57, 3) := by decide +kernel
theorem dX8_write_51 : decode cX8_write 51 = .ok (.iload_n 3, 1) := by decide +kernel
theorem dX8_write_52 : decode cX8_write 52 = .ok (.invokevirtual 280, 3) := by decide +kernel
theorem dX8_write_55 : decode cX8_write 55 = .ok (.aload_n 0, 1) := by decide +kernel
theorem dX8_write_56 : decode cX8_write 56 = .ok (.getfield 57, 3) := by decide +kernel
theorem dX8_write_59 : decode cX8_write 59 = .ok (.bipush 58, 2) := by decide +kernel
theorem dX8_write_61 : decode cX8_write 61 = .ok (.invokevirtual 79, 3) := by decide +kernel
theorem dX8_write_64 : decode cX8_write 64 = .ok (.aload_n 0, 1) := by decide +kernel
theorem dX8_write_65 : decode cX8_write 65 = .ok (.getfield 57, 3) := by decide +kernel
theorem dX8_write_68 : decode cX8_write 68 = .ok (.aload_n 0, 1) := by decide +kernel
theorem dX8_write_69 : decode cX8_write 69 = .ok (.getfield 10, 3) := by decide +kernel
theorem dX8_write_72 : decode cX8_write 72 = .ok (.iload_n 2, 1) := by decide +kernel
theorem dX8_write_73 : decode cX8_write 73 = .ok (.iload_n 3, 1) := by decide +kernel
theorem dX8_write_74 : decode cX8_write 74 = .ok (.aload_n 0, 1) := by decide +kernel
theorem dX8_write_75 : decode cX8_write 75 = .ok (.getfield 10, 3) := by decide +kernel
theorem dX8_write_78 : decode cX8_write 78 = .ok (.iload_n 2, 1) := by decide +kernel
theorem dX8_write_79 : decode cX8_write 79 = .ok (.invokevirtual 123, 3) := by decide +kernel
theorem dX8_write_82 : decode cX8_write 82 = .ok (.iload_n 3, 1) := by decide +kernel
theorem dX8_write_83 : decode cX8_write 83 = .ok (.isub, 1) := by decide +kernel
theorem dX8_write_84 : decode cX8_write 84 = .ok (.invokevirtual 283, 3) := by decide +kernel
theorem dX8_write_87 : decode cX8_write 87 = .ok (.aload_n 0, 1) := by decide +kernel
theorem dX8_write_88 : decode cX8_write 88 = .ok (.getfield 57, 3) := by decide +kernel
theorem dX8_write_91 : decode cX8_write 91 = .ok (.invokevirtual 83, 3) := by decide +kernel
theorem dX8_write_94 : decode cX8_write 94 = .ok (.ireturn, 1) := by decide +kernel
theorem dX8_writeLongest_0 : decode cX8_writeLongest 0 = .ok (.aload_n 0, 1) := by decide +kernel
theorem dX8_writeLongest_1 : decode cX8_writeLongest 1 = .ok (.invokevirtual 202, 3) := by decide +kernel
theorem dX8_writeLongest_4 : decode cX8_writeLongest 4 = .ok (.aload_n 0, 1) := by decide +kernel
theorem dX8_writeLongest_5 : decode cX8_writeLongest 5 = .ok (.getfield 53, 3) := by decide +kernel
theorem dX8_writeLongest_8 : decode cX8_writeLongest 8 = .ok (.invokevirtual 205, 3) := by decide +kernel
theorem dX8_writeLongest_11 : decode cX8_writeLongest 11 = .ok (.istore_n 1, 1) := by decide +kernel
theorem dX8_writeLongest_12 : decode cX8_writeLongest 12 = .ok (.aload_n 0, 1) := by decide +kernel
theorem dX8_writeLongest_13 : decode cX8_writeLongest 13 = .ok (.getfield 57, 3) := by decide +kernel
theorem dX8_writeLongest_16 : decode cX8_writeLongest 16 = .ok (.invokevirtual 97, 3) := by decide +kernel
theorem dX8_writeLongest_19 : decode cX8_writeLongest 19 = .ok (.aload_n 0, 1) := by decide +kernel
theorem dX8_writeLongest_20 : decode cX8_writeLongest 20 = .ok (.getfield 57, 3) := by decide +kernel
theorem dX8_writeLongest_23 : decode cX8_writeLongest 23 = .ok (.aload_n 0, 1) := by decide +kernel
theorem dX8_writeLongest_24 : decode cX8_writeLongest 24 = .ok (.getfield 10, 3) := by decide +kernel
theorem dX8_writeLongest_27 : decode cX8_writeLongest 27 = .ok (.aload_n 0, 1) := by decide +kernel
theorem dX8_writeLongest_28 : decode cX8_writeLongest 28 = .ok (.getfield 53, 3) := by decide +kernel
theorem dX8_writeLongest_31 : decode cX8_writeLongest 31 = .ok (.iload_n 1, 1) := by decide +kernel
theorem dX8_writeLongest_32 : decode cX8_writeLongest 32 = .ok (.invokevirtual 181, 3) := by decide +kernel
theorem dX8_writeLongest_35 : decode cX8_writeLongest 35 = .ok (.aload_n 0, 1) := by decide +kernel
theorem dX8_writeLongest_36 : decode cX8_writeLongest 36 = .ok (.getfield 53, 3) := by decide +kernel
theorem dX8_writeLongest_39 : decode cX8_writeLongest 39 = .ok (.iload_n 1, 1) := by decide +kernel
theorem dX8_writeLongest_40 : decode cX8_writeLongest 40 = .ok (.invokevirtual 178, 3) := by decide +kernel
theorem dX8_writeLongest_43 : decode cX8_writeLongest 43 = .ok (.aload_n 0, 1) := by decide +kernel
theorem dX8_writeLongest_44 : decode cX8_writeLongest 44 = .ok (.getfield 53, 3) := by decide +kernel
theorem dX8_writeLongest_47 : decode cX8_writeLongest 47 = .ok (.invokevirtual 199, 3) := by decide +kernel
theorem dX8_writeLongest_50 : decode cX8_writeLongest 50 = .ok (.invokevirtual 283, 3) := by decide +kernel
theorem dX8_writeLongest_53 : decode cX8_writeLongest 53 = .ok (.aload_n 0, 1) := by decide +kernel
theorem dX8_writeLongest_54 : decode cX8_writeLongest 54 = .ok (.getfield 57, 3) := by decide +kernel
theorem dX8_writeLongest_57 : decode cX8_writeLongest 57 = .ok (.invokevirtual 83, 3) := by decide +kernel
theorem dX8_writeLongest_60 : decode cX8_writeLongest 60 = .ok (.ireturn, 1) := by decide +kernel
theorem dX8_character_0 : decode cX8_character 0 = .ok (.iload_n 1, 1) := by decide +kernel
theorem dX8_character_1 : decode cX8_character 1 = .ok (.ifCond .lt 14, 3) := by decide +kernel
theorem dX8_character_4 : decode cX8_character 4 = .ok (.iload_n 1, 1) := by decide +kernel
theorem dX8_character_5 : decode cX8_character 5 = .ok (.aload_n 0, 1) := by decide +kernel
theorem dX8_character_6 : decode cX8_character 6 = .ok (.getfield 57, 3) := by decide +kernel
theorem dX8_character_9 : decode cX8_character 9 = .ok (.invokevirtual 83, 3) := by decide +kernel
theorem dX8_character_12 : decode cX8_character 12 = .ok (.if_icmp .lt 14, 3) := by decide +kernel
theorem dX8_character_15 : decode cX8_character 15 = .ok (.new 287, 3) := by decide +kernel
theorem dX8_character_18 : decode cX8_character 18 = .ok (.dup, 1) := by decide +kernel
theorem dX8_character_19 : decode cX8_character 19 = .ok (.ldc_w 289, 3) := by decide +kernel
theorem dX8_character_22 : decode cX8_character 22 = .ok (.invokespecial 291, 3) := by decide +kernel
theorem dX8_character_25 : decode cX8_character 25 = .ok (.athrow, 1) := by decide +kernel
theorem dX8_character_26 : decode cX8_character 26 = .ok (.aload_n 0, 1) := by decide +kernel
theorem dX8_character_27 : decode cX8_character 27 = .ok (.getfield 57, 3) := by decide +kernel
theorem dX8_character_30 : decode cX8_character 30 = .ok (.iload_n 1, 1) := by decide +kernel
theorem dX8_character_31 : decode cX8_character 31 = .ok (.invokevirtual 292, 3) := by decide +kernel
theorem dX8_character_34 : decode cX8_character 34 = .ok (.ireturn, 1) := by decide +kernel
theorem dX8_meanLetters_0 : decode cX8_meanLetters 0 = .ok (.aload_n 0, 1) := by decide +kernel
theorem dX8_meanLetters_1 : decode cX8_meanLetters 1 = .ok (.invokevirtual 296, 3) := by decide +kernel
theorem dX8_meanLetters_4 : decode cX8_meanLetters 4 = .ok (.aload_n 0, 1) := by decide +kernel
theorem dX8_meanLetters_5 : decode cX8_meanLetters 5 = .ok (.getfield 53, 3) := by decide +kernel
theorem dX8_meanLetters_8 : decode cX8_meanLetters 8 = .ok (.invokevirtual 299, 3) := by decide +kernel
theorem dX8_meanLetters_11 : decode cX8_meanLetters 11 = .ok (.i2f, 1) := by decide +kernel
theorem dX8_meanLetters_12 : decode cX8_meanLetters 12 = .ok (.aload_n 0, 1) := by decide +kernel
theorem dX8_meanLetters_13 : decode cX8_meanLetters 13 = .ok (.getfield 10, 3) := by decide +kernel
theorem dX8_meanLetters_16 : decode cX8_meanLetters 16 = .ok (.invokevirtual 104, 3) := by decide +kernel
theorem dX8_meanLetters_19 : decode cX8_meanLetters 19 = .ok (.i2f, 1) := by decide +kernel
theorem dX8_meanLetters_20 : decode cX8_meanLetters 20 = .ok (.fdiv, 1) := by decide +kernel
theorem dX8_meanLetters_21 : decode cX8_meanLetters 21 = .ok (.freturn, 1) := by decide +kernel
theorem dX8_repeatShare_0 : decode cX8_repeatShare 0 = .ok (.aload_n 0, 1) := by decide +kernel
theorem dX8_repeatShare_1 : decode cX8_repeatShare 1 = .ok (.invokevirtual 296, 3) := by decide +kernel
theorem dX8_repeatShare_4 : decode cX8_repeatShare 4 = .ok (.aload_n 0, 1) := by decide +kernel
theorem dX8_repeatShare_5 : decode cX8_repeatShare 5 = .ok (.getfield 53, 3) := by decide +kernel
theorem dX8_repeatShare_8 : decode cX8_repeatShare 8 = .ok (.invokevirtual 302, 3) := by decide +kernel
theorem dX8_repeatShare_11 : decode cX8_repeatShare 11 = .ok (.i2d, 1) := by decide +kernel
theorem dX8_repeatShare_12 : decode cX8_repeatShare 12 = .ok (.aload_n 0, 1) := by decide +kernel
theorem dX8_repeatShare_13 : decode cX8_repeatShare 13 = .ok (.getfield 53, 3) := by decide +kernel
theorem dX8_repeatShare_16 : decode cX8_repeatShare 16 = .ok (.invokevirtual 299, 3) := by decide +kernel
theorem dX8_repeatShare_19 : decode cX8_repeatShare 19 = .ok (.i2d, 1) := by decide +kernel
theorem dX8_repeatShare_20 : decode cX8_repeatShare 20 = .ok (.ddiv, 1) := by decide +kernel
theorem dX8_repeatShare_21 : decode cX8_repeatShare 21 = .ok (.dreturn, 1) := by decide +kernel
theorem dX8_account_0 : decode cX8_account 0 = .ok (.iload_n 1, 1) := by decide +kernel
theorem dX8_account_1 : decode cX8_account 1 = .ok (.tableswitch 102 0 6 #[43, 51, 59, 70, 78, 86, 94], 43) := by decide +kernel
theorem dX8_account_44 : decode cX8_account 44 = .ok (.aload_n 0, 1) := by decide +kernel
theorem dX8_account_45 : decode cX8_account 45 = .ok (.getfield 10, 3) := by decide +kernel
theorem dX8_account_48 : decode cX8_account 48 = .ok (.invokevirtual 104, 3) := by decide +kernel
theorem dX8_account_51 : decode cX8_account 51 = .ok (.ireturn, 1) := by decide +kernel
theorem dX8_account_52 : decode cX8_account 52 = .ok (.aload_n 0, 1) := by decide +kernel
theorem dX8_account_53 : decode cX8_account 53 = .ok (.getfield 53, 3) := by decide +kernel
theorem dX8_account_56 : decode cX8_account 56 = .ok (.invokevirtual 299, 3) := by decide +kernel
theorem dX8_account_59 : decode cX8_account 59 = .ok (.ireturn, 1) := by decide +kernel
theorem dX8_account_60 : decode cX8_account 60 = .ok (.aload_n 0, 1) := by decide +kernel
theorem dX8_account_61 : decode cX8_account 61 = .ok (.getfield 10, 3) := by decide +kernel
theorem dX8_account_64 : decode cX8_account 64 = .ok (.invokevirtual 305, 3) := by decide +kernel
theorem dX8_account_67 : decode cX8_account 67 = .ok (.invokestatic 145, 3) := by decide +kernel
theorem dX8_account_70 : decode cX8_account 70 = .ok (.ireturn, 1) := by decide +kernel
theorem dX8_account_71 : decode cX8_account 71 = .ok (.aload_n 0, 1) := by decide +kernel
theorem dX8_account_72 : decode cX8_account 72 = .ok (.getfield 53, 3) := by decide +kernel
theorem dX8_account_75 : decode cX8_account 75 = .ok (.invokevirtual 307, 3) := by decide +kernel
theorem dX8_account_78 : decode cX8_account 78 = .ok (.ireturn, 1) := by decide +kernel
theorem dX8_account_79 : decode cX8_account 79 = .ok (.aload_n 0, 1) := by decide +kernel
theorem dX8_account_80 : decode cX8_account 80 = .ok (.getfield 10, 3) := by decide +kernel
theorem dX8_account_83 : decode cX8_account 83 = .ok (.invokevirtual 310, 3) := by decide +kernel
theorem dX8_account_86 : decode cX8_account 86 = .ok (.ireturn, 1) := by decide +kernel
theorem dX8_account_87 : decode cX8_account 87 = .ok (.aload_n 0, 1) := by decide +kernel
theorem dX8_account_88 : decode cX8_account 88 = .ok (.getfield 46, 3) := by decide +kernel
theorem dX8_account_91 : decode cX8_account 91 = .ok (.invokevirtual 313, 3) := by decide +kernel
theorem dX8_account_94 : decode cX8_account 94 = .ok (.ireturn, 1) := by decide +kernel
theorem dX8_account_95 : decode cX8_account 95 = .ok (.aload_n 0, 1) := by decide +kernel
theorem dX8_account_96 : decode cX8_account 96 = .ok (.getfield 25, 3) := by decide +kernel
theorem dX8_account_99 : decode cX8_account 99 = .ok (.invokevirtual 83, 3) := by decide +kernel
theorem dX8_account_102 : decode cX8_account 102 = .ok (.ireturn, 1) := by decide +kernel
theorem dX8_account_103 : decode cX8_account 103 = .ok (.new 162, 3) := by decide +kernel
theorem dX8_account_106 : decode cX8_account 106 = .ok (.dup, 1) := by decide +kernel
theorem dX8_account_107 : decode cX8_account 107 = .ok (.ldc_w 315, 3) := by decide +kernel
theorem dX8_account_110 : decode cX8_account 110 = .ok (.invokespecial 166, 3) := by decide +kernel
theorem dX8_account_113 : decode cX8_account 113 = .ok (.athrow, 1) := by decide +kernel
theorem dX8_finishChange_0 : decode cX8_finishChange 0 = .ok (.iload_n 1, 1) := by decide +kernel
theorem dX8_finishChange_1 : decode cX8_finishChange 1 = .ok (.ifCond .ne 14, 3) := by decide +kernel
theorem dX8_finishChange_4 : decode cX8_finishChange 4 = .ok (.new 328, 3) := by decide +kernel
theorem dX8_finishChange_7 : decode cX8_finishChange 7 = .ok (.dup, 1) := by decide +kernel
theorem dX8_finishChange_8 : decode cX8_finishChange 8 = .ok (.ldc_w 330, 3) := by decide +kernel
theorem dX8_finishChange_11 : decode cX8_finishChange 11 = .ok (.invokespecial 332, 3) := by decide +kernel
theorem dX8_finishChange_14 : decode cX8_finishChange 14 = .ok (.athrow, 1) := by decide +kernel
theorem dX8_finishChange_15 : decode cX8_finishChange 15 = .ok (.aload_n 0, 1) := by decide +kernel
theorem dX8_finishChange_16 : decode cX8_finishChange 16 = .ok (.getfield 46, 3) := by decide +kernel
theorem dX8_finishChange_19 : decode cX8_finishChange 19 = .ok (.aload_n 0, 1) := by decide +kernel
theorem dX8_finishChange_20 : decode cX8_finishChange 20 = .ok (.getfield 16, 3) := by decide +kernel
theorem dX8_finishChange_23 : decode cX8_finishChange 23 = .ok (.invokevirtual 333, 3) := by decide +kernel
theorem dX8_finishChange_26 : decode cX8_finishChange 26 = .ok (.aload_n 0, 1) := by decide +kernel
theorem dX8_finishChange_27 : decode cX8_finishChange 27 = .ok (.getfield 53, 3) := by decide +kernel
theorem dX8_finishChange_30 : decode cX8_finishChange 30 = .ok (.aload_n 0, 1) := by decide +kernel
theorem dX8_finishChange_31 : decode cX8_finishChange 31 = .ok (.getfield 10, 3) := by decide +kernel
theorem dX8_finishChange_34 : decode cX8_finishChange 34 = .ok (.invokevirtual 322, 3) := by decide +kernel
theorem dX8_finishChange_37 : decode cX8_finishChange 37 = .ok (.return_, 1) := by decide +kernel
theorem dX8_checkLine_0 : decode cX8_checkLine 0 = .ok (.aload_n 0, 1) := by decide +kernel
theorem dX8_checkLine_1 : decode cX8_checkLine 1 = .ok (.getfield 10, 3) := by decide +kernel
theorem dX8_checkLine_4 : decode cX8_checkLine 4 = .ok (.iload_n 1, 1) := by decide +kernel
theorem dX8_checkLine_5 : decode cX8_checkLine 5 = .ok (.invokevirtual 336, 3) := by decide +kernel
theorem dX8_checkLine_8 : decode cX8_checkLine 8 = .ok (.ifCond .ne 14, 3) := by decide +kernel
theorem dX8_checkLine_11 : decode cX8_checkLine 11 = .ok (.new 287, 3) := by decide +kernel
theorem dX8_checkLine_14 : decode cX8_checkLine 14 = .ok (.dup, 1) := by decide +kernel
theorem dX8_checkLine_15 : decode cX8_checkLine 15 = .ok (.ldc_w 340, 3) := by decide +kernel
theorem dX8_checkLine_18 : decode cX8_checkLine 18 = .ok (.invokespecial 291, 3) := by decide +kernel
theorem dX8_checkLine_21 : decode cX8_checkLine 21 = .ok (.athrow, 1) := by decide +kernel
theorem dX8_checkLine_22 : decode cX8_checkLine 22 = .ok (.return_, 1) := by decide +kernel
theorem dX8_checkPlace_0 : decode cX8_checkPlace 0 = .ok (.aload_n 0, 1) := by decide +kernel
theorem dX8_checkPlace_1 : decode cX8_checkPlace 1 = .ok (.getfield 10, 3) := by decide +kernel
theorem dX8_checkPlace_4 : decode cX8_checkPlace 4 = .ok (.iload_n 1, 1) := by decide +kernel
theorem dX8_checkPlace_5 : decode cX8_checkPlace 5 = .ok (.iload_n 2, 1) := by decide +kernel
theorem dX8_checkPlace_6 : decode cX8_checkPlace 6 = .ok (.invokevirtual 342, 3) := by decide +kernel
theorem dX8_checkPlace_9 : decode cX8_checkPlace 9 = .ok (.ifCond .ne 14, 3) := by decide +kernel
theorem dX8_checkPlace_12 : decode cX8_checkPlace 12 = .ok (.new 287, 3) := by decide +kernel
theorem dX8_checkPlace_15 : decode cX8_checkPlace 15 = .ok (.dup, 1) := by decide +kernel
theorem dX8_checkPlace_16 : decode cX8_checkPlace 16 = .ok (.ldc_w 345, 3) := by decide +kernel
theorem dX8_checkPlace_19 : decode cX8_checkPlace 19 = .ok (.invokespecial 291, 3) := by decide +kernel
theorem dX8_checkPlace_22 : decode cX8_checkPlace 22 = .ok (.athrow, 1) := by decide +kernel
theorem dX8_checkPlace_23 : decode cX8_checkPlace 23 = .ok (.return_, 1) := by decide +kernel
theorem dX8_checkRank_0 : decode cX8_checkRank 0 = .ok (.aload_n 0, 1) := by decide +kernel
theorem dX8_checkRank_1 : decode cX8_checkRank 1 = .ok (.getfield 53, 3) := by decide +kernel
theorem dX8_checkRank_4 : decode cX8_checkRank 4 = .ok (.iload_n 1, 1) := by decide +kernel
theorem dX8_checkRank_5 : decode cX8_checkRank 5 = .ok (.invokevirtual 347, 3) := by decide +kernel
theorem dX8_checkRank_8 : decode cX8_checkRank 8 = .ok (.ifCond .ne 14, 3) := by decide +kernel
theorem dX8_checkRank_11 : decode cX8_checkRank 11 = .ok (.new 187, 3) := by decide +kernel
theorem dX8_checkRank_14 : decode cX8_checkRank 14 = .ok (.dup, 1) := by decide +kernel
theorem dX8_checkRank_15 : decode cX8_checkRank 15 = .ok (.ldc_w 350, 3) := by decide +kernel
theorem dX8_checkRank_18 : decode cX8_checkRank 18 = .ok (.invokespecial 191, 3) := by decide +kernel
theorem dX8_checkRank_21 : decode cX8_checkRank 21 = .ok (.athrow, 1) := by decide +kernel
theorem dX8_checkRank_22 : decode cX8_checkRank 22 = .ok (.return_, 1) := by decide +kernel
theorem dX8_checkRepeat_0 : decode cX8_checkRepeat 0 = .ok (.aload_n 0, 1) := by decide +kernel
theorem dX8_checkRepeat_1 : decode cX8_checkRepeat 1 = .ok (.getfield 53, 3) := by decide +kernel
theorem dX8_checkRepeat_4 : decode cX8_checkRepeat 4 = .ok (.invokevirtual 199, 3) := by decide +kernel
theorem dX8_checkRepeat_7 : decode cX8_checkRepeat 7 = .ok (.ifCond .ne 14, 3) := by decide +kernel
theorem dX8_checkRepeat_10 : decode cX8_checkRepeat 10 = .ok (.new 187, 3) := by decide +kernel
theorem dX8_checkRepeat_13 : decode cX8_checkRepeat 13 = .ok (.dup, 1) := by decide +kernel
theorem dX8_checkRepeat_14 : decode cX8_checkRepeat 14 = .ok (.ldc_w 352, 3) := by decide +kernel
theorem dX8_checkRepeat_17 : decode cX8_checkRepeat 17 = .ok (.invokespecial 191, 3) := by decide +kernel
theorem dX8_checkRepeat_20 : decode cX8_checkRepeat 20 = .ok (.athrow, 1) := by decide +kernel
theorem dX8_checkRepeat_21 : decode cX8_checkRepeat 21 = .ok (.return_, 1) := by decide +kernel
theorem dX8_checkWord_0 : decode cX8_checkWord 0 = .ok (.aload_n 0, 1) := by decide +kernel
theorem dX8_checkWord_1 : decode cX8_checkWord 1 = .ok (.getfield 25, 3) := by decide +kernel
theorem dX8_checkWord_4 : decode cX8_checkWord 4 = .ok (.invokevirtual 354, 3) := by decide +kernel
theorem dX8_checkWord_7 : decode cX8_checkWord 7 = .ok (.ifCond .ne 14, 3) := by decide +kernel
theorem dX8_checkWord_10 : decode cX8_checkWord 10 = .ok (.new 162, 3) := by decide +kernel
theorem dX8_checkWord_13 : decode cX8_checkWord 13 = .ok (.dup, 1) := by decide +kernel
theorem dX8_checkWord_14 : decode cX8_checkWord 14 = .ok (.ldc_w 357, 3) := by decide +kernel
theorem dX8_checkWord_17 : decode cX8_checkWord 17 = .ok (.invokespecial 166, 3) := by decide +kernel
theorem dX8_checkWord_20 : decode cX8_checkWord 20 = .ok (.athrow, 1) := by decide +kernel
theorem dX8_checkWord_21 : decode cX8_checkWord 21 = .ok (.return_, 1) := by decide +kernel
theorem dX8_checkNotEmpty_0 : decode cX8_checkNotEmpty 0 = .ok (.aload_n 0, 1) := by decide +kernel
theorem dX8_checkNotEmpty_1 : decode cX8_checkNotEmpty 1 = .ok (.getfield 10, 3) := by decide +kernel
theorem dX8_checkNotEmpty_4 : decode cX8_checkNotEmpty 4 = .ok (.invokevirtual 104, 3) := by decide +kernel
theorem dX8_checkNotEmpty_7 : decode cX8_checkNotEmpty 7 = .ok (.ifCond .eq 13, 3) := by decide +kernel
theorem dX8_checkNotEmpty_10 : decode cX8_checkNotEmpty 10 = .ok (.aload_n 0, 1) := by decide +kernel
theorem dX8_checkNotEmpty_11 : decode cX8_checkNotEmpty 11 = .ok (.getfield 53, 3) := by decide +kernel
theorem dX8_checkNotEmpty_14 : decode cX8_checkNotEmpty 14 = .ok (.invokevirtual 299, 3) := by decide +kernel
theorem dX8_checkNotEmpty_17 : decode cX8_checkNotEmpty 17 = .ok (.ifCond .ne 14, 3) := by decide +kernel
theorem dX8_checkNotEmpty_20 : decode cX8_checkNotEmpty 20 = .ok (.new 359, 3) := by decide +kernel
theorem dX8_checkNotEmpty_23 : decode cX8_checkNotEmpty 23 = .ok (.dup, 1) := by decide +kernel
theorem dX8_checkNotEmpty_24 : decode cX8_checkNotEmpty 24 = .ok (.ldc_w 361, 3) := by decide +kernel
theorem dX8_checkNotEmpty_27 : decode cX8_checkNotEmpty 27 = .ok (.invokespecial 363, 3) := by decide +kernel
theorem dX8_checkNotEmpty_30 : decode cX8_checkNotEmpty 30 = .ok (.athrow, 1) := by decide +kernel
theorem dX8_checkNotEmpty_31 : decode cX8_checkNotEmpty 31 = .ok (.return_, 1) := by decide +kernel
theorem dX8_checkAlone_0 : decode cX8_checkAlone 0 = .ok (.iload_n 1, 1) := by decide +kernel
theorem dX8_checkAlone_1 : decode cX8_checkAlone 1 = .ok (.bipush 10, 2) := by decide +kernel
theorem dX8_checkAlone_3 : decode cX8_checkAlone 3 = .ok (.if_icmp .le 14, 3) := by decide +kernel
theorem dX8_checkAlone_6 : decode cX8_checkAlone 6 = .ok (.new 187, 3) := by decide +kernel
theorem dX8_checkAlone_9 : decode cX8_checkAlone 9 = .ok (.dup, 1) := by decide +kernel
theorem dX8_checkAlone_10 : decode cX8_checkAlone 10 = .ok (.ldc_w 364, 3) := by decide +kernel
theorem dX8_checkAlone_13 : decode cX8_checkAlone 13 = .ok (.invokespecial 191, 3) := by decide +kernel
theorem dX8_checkAlone_16 : decode cX8_checkAlone 16 = .ok (.athrow, 1) := by decide +kernel
theorem dX8_checkAlone_17 : decode cX8_checkAlone 17 = .ok (.return_, 1) := by decide +kernel
theorem dX8_isSmallLetter_0 : decode cX8_isSmallLetter 0 = .ok (.iload_n 0, 1) := by decide +kernel
theorem dX8_isSmallLetter_1 : decode cX8_isSmallLetter 1 = .ok (.bipush 97, 2) := by decide +kernel
theorem dX8_isSmallLetter_3 : decode cX8_isSmallLetter 3 = .ok (.if_icmp .lt 13, 3) := by decide +kernel
theorem dX8_isSmallLetter_6 : decode cX8_isSmallLetter 6 = .ok (.iload_n 0, 1) := by decide +kernel
theorem dX8_isSmallLetter_7 : decode cX8_isSmallLetter 7 = .ok (.bipush 122, 2) := by decide +kernel
theorem dX8_isSmallLetter_9 : decode cX8_isSmallLetter 9 = .ok (.if_icmp .gt 7, 3) := by decide +kernel
theorem dX8_isSmallLetter_12 : decode cX8_isSmallLetter 12 = .ok (.iconst 1, 1) := by decide +kernel
theorem dX8_isSmallLetter_13 : decode cX8_isSmallLetter 13 = .ok (.goto 4, 3) := by decide +kernel
theorem dX8_isSmallLetter_16 : decode cX8_isSmallLetter 16 = .ok (.iconst 0, 1) := by decide +kernel
theorem dX8_isSmallLetter_17 : decode cX8_isSmallLetter 17 = .ok (.ireturn, 1) := by decide +kernel
theorem dJ6_bitCount_0f7a4_0 : decode cJ6_bitCount_0f7a4 0 = .ok (.iload_n 0, 1) := by decide +kernel
theorem dJ6_bitCount_0f7a4_1 : decode cJ6_bitCount_0f7a4 1 = .ok (.iload_n 0, 1) := by decide +kernel
theorem dJ6_bitCount_0f7a4_2 : decode cJ6_bitCount_0f7a4 2 = .ok (.iconst 1, 1) := by decide +kernel
theorem dJ6_bitCount_0f7a4_3 : decode cJ6_bitCount_0f7a4 3 = .ok (.iushr, 1) := by decide +kernel
theorem dJ6_bitCount_0f7a4_4 : decode cJ6_bitCount_0f7a4 4 = .ok (.ldc_w 265, 3) := by decide +kernel
theorem dJ6_bitCount_0f7a4_7 : decode cJ6_bitCount_0f7a4 7 = .ok (.iand, 1) := by decide +kernel
theorem dJ6_bitCount_0f7a4_8 : decode cJ6_bitCount_0f7a4 8 = .ok (.isub, 1) := by decide +kernel
theorem dJ6_bitCount_0f7a4_9 : decode cJ6_bitCount_0f7a4 9 = .ok (.istore_n 0, 1) := by decide +kernel
theorem dJ6_bitCount_0f7a4_10 : decode cJ6_bitCount_0f7a4 10 = .ok (.iload_n 0, 1) := by decide +kernel
theorem dJ6_bitCount_0f7a4_11 : decode cJ6_bitCount_0f7a4 11 = .ok (.ldc_w 266, 3) := by decide +kernel
theorem dJ6_bitCount_0f7a4_14 : decode cJ6_bitCount_0f7a4 14 = .ok (.iand, 1) := by decide +kernel
theorem dJ6_bitCount_0f7a4_15 : decode cJ6_bitCount_0f7a4 15 = .ok (.iload_n 0, 1) := by decide +kernel
theorem dJ6_bitCount_0f7a4_16 : decode cJ6_bitCount_0f7a4 16 = .ok (.iconst 2, 1) := by decide +kernel
theorem dJ6_bitCount_0f7a4_17 : decode cJ6_bitCount_0f7a4 17 = .ok (.iushr, 1) := by decide +kernel
theorem dJ6_bitCount_0f7a4_18 : decode cJ6_bitCount_0f7a4 18 = .ok (.ldc_w 266, 3) := by decide +kernel
theorem dJ6_bitCount_0f7a4_21 : decode cJ6_bitCount_0f7a4 21 = .ok (.iand, 1) := by decide +kernel
theorem dJ6_bitCount_0f7a4_22 : decode cJ6_bitCount_0f7a4 22 = .ok (.iadd, 1) := by decide +kernel
theorem dJ6_bitCount_0f7a4_23 : decode cJ6_bitCount_0f7a4 23 = .ok (.istore_n 0, 1) := by decide +kernel
theorem dJ6_bitCount_0f7a4_24 : decode cJ6_bitCount_0f7a4 24 = .ok (.iload_n 0, 1) := by decide +kernel
theorem dJ6_bitCount_0f7a4_25 : decode cJ6_bitCount_0f7a4 25 = .ok (.iload_n 0, 1) := by decide +kernel
theorem dJ6_bitCount_0f7a4_26 : decode cJ6_bitCount_0f7a4 26 = .ok (.iconst 4, 1) := by decide +kernel
theorem dJ6_bitCount_0f7a4_27 : decode cJ6_bitCount_0f7a4 27 = .ok (.iushr, 1) := by decide +kernel
theorem dJ6_bitCount_0f7a4_28 : decode cJ6_bitCount_0f7a4 28 = .ok (.iadd, 1) := by decide +kernel
theorem dJ6_bitCount_0f7a4_29 : decode cJ6_bitCount_0f7a4 29 = .ok (.ldc_w 267, 3) := by decide +kernel
theorem dJ6_bitCount_0f7a4_32 : decode cJ6_bitCount_0f7a4 32 = .ok (.iand, 1) := by decide +kernel
theorem dJ6_bitCount_0f7a4_33 : decode cJ6_bitCount_0f7a4 33 = .ok (.istore_n 0, 1) := by decide +kernel
theorem dJ6_bitCount_0f7a4_34 : decode cJ6_bitCount_0f7a4 34 = .ok (.iload_n 0, 1) := by decide +kernel
theorem dJ6_bitCount_0f7a4_35 : decode cJ6_bitCount_0f7a4 35 = .ok (.iload_n 0, 1) := by decide +kernel
theorem dJ6_bitCount_0f7a4_36 : decode cJ6_bitCount_0f7a4 36 = .ok (.bipush 8, 2) := by decide +kernel
theorem dJ6_bitCount_0f7a4_38 : decode cJ6_bitCount_0f7a4 38 = .ok (.iushr, 1) := by decide +kernel
theorem dJ6_bitCount_0f7a4_39 : decode cJ6_bitCount_0f7a4 39 = .ok (.iadd, 1) := by decide +kernel
theorem dJ6_bitCount_0f7a4_40 : decode cJ6_bitCount_0f7a4 40 = .ok (.istore_n 0, 1) := by decide +kernel
theorem dJ6_bitCount_0f7a4_41 : decode cJ6_bitCount_0f7a4 41 = .ok (.iload_n 0, 1) := by decide +kernel
theorem dJ6_bitCount_0f7a4_42 : decode cJ6_bitCount_0f7a4 42 = .ok (.iload_n 0, 1) := by decide +kernel
theorem dJ6_bitCount_0f7a4_43 : decode cJ6_bitCount_0f7a4 43 = .ok (.bipush 16, 2) := by decide +kernel
theorem dJ6_bitCount_0f7a4_45 : decode cJ6_bitCount_0f7a4 45 = .ok (.iushr, 1) := by decide +kernel
theorem dJ6_bitCount_0f7a4_46 : decode cJ6_bitCount_0f7a4 46 = .ok (.iadd, 1) := by decide +kernel
theorem dJ6_bitCount_0f7a4_47 : decode cJ6_bitCount_0f7a4 47 = .ok (.istore_n 0, 1) := by decide +kernel
theorem dJ6_bitCount_0f7a4_48 : decode cJ6_bitCount_0f7a4 48 = .ok (.iload_n 0, 1) := by decide +kernel
theorem dJ6_bitCount_0f7a4_49 : decode cJ6_bitCount_0f7a4 49 = .ok (.bipush 63, 2) := by decide +kernel
theorem dJ6_bitCount_0f7a4_51 : decode cJ6_bitCount_0f7a4 51 = .ok (.iand, 1) := by decide +kernel
theorem dJ6_bitCount_0f7a4_52 : decode cJ6_bitCount_0f7a4 52 = .ok (.ireturn, 1) := by decide +kernel
