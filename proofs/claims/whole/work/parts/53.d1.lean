theorem dX6_leastCaughtBook_18 : decode cX6_leastCaughtBook 18 = .ok (.ishl, 1) := by decide +kernel
theorem dX6_leastCaughtBook_19 : decode cX6_leastCaughtBook 19 = .ok (.ishl, 1) := by decide +kernel
theorem dX6_leastCaughtBook_20 : decode cX6_leastCaughtBook 20 = .ok (.if_icmp .ge 32, 3) := by decide +kernel
theorem dX6_leastCaughtBook_23 : decode cX6_leastCaughtBook 23 = .ok (.iload_n 0, 1) := by decide +kernel
theorem dX6_leastCaughtBook_24 : decode cX6_leastCaughtBook 24 = .ok (.iload_n 3, 1) := by decide +kernel
theorem dX6_leastCaughtBook_25 : decode cX6_leastCaughtBook 25 = .ok (.invokestatic 34, 3) := by decide +kernel
theorem dX6_leastCaughtBook_28 : decode cX6_leastCaughtBook 28 = .ok (.istore 4, 2) := by decide +kernel
theorem dX6_leastCaughtBook_30 : decode cX6_leastCaughtBook 30 = .ok (.iload 4, 2) := by decide +kernel
theorem dX6_leastCaughtBook_32 : decode cX6_leastCaughtBook 32 = .ok (.ifCond .le 14, 3) := by decide +kernel
theorem dX6_leastCaughtBook_35 : decode cX6_leastCaughtBook 35 = .ok (.iload 4, 2) := by decide +kernel
theorem dX6_leastCaughtBook_37 : decode cX6_leastCaughtBook 37 = .ok (.iload_n 2, 1) := by decide +kernel
theorem dX6_leastCaughtBook_38 : decode cX6_leastCaughtBook 38 = .ok (.if_icmp .ge 8, 3) := by decide +kernel
theorem dX6_leastCaughtBook_41 : decode cX6_leastCaughtBook 41 = .ok (.iload 4, 2) := by decide +kernel
theorem dX6_leastCaughtBook_43 : decode cX6_leastCaughtBook 43 = .ok (.istore_n 2, 1) := by decide +kernel
theorem dX6_leastCaughtBook_44 : decode cX6_leastCaughtBook 44 = .ok (.iload_n 3, 1) := by decide +kernel
theorem dX6_leastCaughtBook_45 : decode cX6_leastCaughtBook 45 = .ok (.istore_n 1, 1) := by decide +kernel
theorem dX6_leastCaughtBook_46 : decode cX6_leastCaughtBook 46 = .ok (.iinc 3 1, 3) := by decide +kernel
theorem dX6_leastCaughtBook_49 : decode cX6_leastCaughtBook 49 = .ok (.goto (-35), 3) := by decide +kernel
theorem dX6_leastCaughtBook_52 : decode cX6_leastCaughtBook 52 = .ok (.iload_n 1, 1) := by decide +kernel
theorem dX6_leastCaughtBook_53 : decode cX6_leastCaughtBook 53 = .ok (.ireturn, 1) := by decide +kernel
theorem dX7_init_0 : decode cX7_init 0 = .ok (.aload_n 0, 1) := by decide +kernel
theorem dX7_init_1 : decode cX7_init 1 = .ok (.invokespecial 1, 3) := by decide +kernel
theorem dX7_init_4 : decode cX7_init 4 = .ok (.aload_n 0, 1) := by decide +kernel
theorem dX7_init_5 : decode cX7_init 5 = .ok (.aload_n 1, 1) := by decide +kernel
theorem dX7_init_6 : decode cX7_init 6 = .ok (.putfield 7, 3) := by decide +kernel
theorem dX7_init_9 : decode cX7_init 9 = .ok (.aload_n 0, 1) := by decide +kernel
theorem dX7_init_10 : decode cX7_init 10 = .ok (.iload_n 2, 1) := by decide +kernel
theorem dX7_init_11 : decode cX7_init 11 = .ok (.putfield 13, 3) := by decide +kernel
theorem dX7_init_14 : decode cX7_init 14 = .ok (.aload_n 0, 1) := by decide +kernel
theorem dX7_init_15 : decode cX7_init 15 = .ok (.aload_n 3, 1) := by decide +kernel
theorem dX7_init_16 : decode cX7_init 16 = .ok (.putfield 17, 3) := by decide +kernel
theorem dX7_init_19 : decode cX7_init 19 = .ok (.aload_n 0, 1) := by decide +kernel
theorem dX7_init_20 : decode cX7_init 20 = .ok (.aload 4, 2) := by decide +kernel
theorem dX7_init_22 : decode cX7_init 22 = .ok (.putfield 21, 3) := by decide +kernel
theorem dX7_init_25 : decode cX7_init 25 = .ok (.return_, 1) := by decide +kernel
theorem dX8_init_0 : decode cX8_init 0 = .ok (.aload_n 0, 1) := by decide +kernel
theorem dX8_init_1 : decode cX8_init 1 = .ok (.invokespecial 3, 3) := by decide +kernel
theorem dX8_init_4 : decode cX8_init 4 = .ok (.aload_n 0, 1) := by decide +kernel
theorem dX8_init_5 : decode cX8_init 5 = .ok (.sipush 200, 3) := by decide +kernel
theorem dX8_init_8 : decode cX8_init 8 = .ok (.newarray .int, 2) := by decide +kernel
theorem dX8_init_10 : decode cX8_init 10 = .ok (.putfield 9, 3) := by decide +kernel
theorem dX8_init_13 : decode cX8_init 13 = .ok (.aload_n 0, 1) := by decide +kernel
theorem dX8_init_14 : decode cX8_init 14 = .ok (.sipush 400, 3) := by decide +kernel
theorem dX8_init_17 : decode cX8_init 17 = .ok (.newarray .int, 2) := by decide +kernel
theorem dX8_init_19 : decode cX8_init 19 = .ok (.putfield 15, 3) := by decide +kernel
theorem dX8_init_22 : decode cX8_init 22 = .ok (.return_, 1) := by decide +kernel
theorem dX8_signsIn_0 : decode cX8_signsIn 0 = .ok (.iconst 0, 1) := by decide +kernel
theorem dX8_signsIn_1 : decode cX8_signsIn 1 = .ok (.istore_n 1, 1) := by decide +kernel
theorem dX8_signsIn_2 : decode cX8_signsIn 2 = .ok (.bipush 24, 2) := by decide +kernel
theorem dX8_signsIn_4 : decode cX8_signsIn 4 = .ok (.istore_n 2, 1) := by decide +kernel
theorem dX8_signsIn_5 : decode cX8_signsIn 5 = .ok (.iload_n 2, 1) := by decide +kernel
theorem dX8_signsIn_6 : decode cX8_signsIn 6 = .ok (.ifCond .lt 22, 3) := by decide +kernel
theorem dX8_signsIn_9 : decode cX8_signsIn 9 = .ok (.iload_n 0, 1) := by decide +kernel
theorem dX8_signsIn_10 : decode cX8_signsIn 10 = .ok (.iload_n 2, 1) := by decide +kernel
theorem dX8_signsIn_11 : decode cX8_signsIn 11 = .ok (.iushr, 1) := by decide +kernel
theorem dX8_signsIn_12 : decode cX8_signsIn 12 = .ok (.sipush 255, 3) := by decide +kernel
theorem dX8_signsIn_15 : decode cX8_signsIn 15 = .ok (.iand, 1) := by decide +kernel
theorem dX8_signsIn_16 : decode cX8_signsIn 16 = .ok (.ifCond .eq 6, 3) := by decide +kernel
theorem dX8_signsIn_19 : decode cX8_signsIn 19 = .ok (.iinc 1 1, 3) := by decide +kernel
theorem dX8_signsIn_22 : decode cX8_signsIn 22 = .ok (.iinc 2 (-8), 3) := by decide +kernel
theorem dX8_signsIn_25 : decode cX8_signsIn 25 = .ok (.goto (-20), 3) := by decide +kernel
theorem dX8_signsIn_28 : decode cX8_signsIn 28 = .ok (.iload_n 1, 1) := by decide +kernel
theorem dX8_signsIn_29 : decode cX8_signsIn 29 = .ok (.ireturn, 1) := by decide +kernel
theorem dX8_append_0 : decode cX8_append 0 = .ok (.bipush 24, 2) := by decide +kernel
theorem dX8_append_2 : decode cX8_append 2 = .ok (.istore_n 2, 1) := by decide +kernel
theorem dX8_append_3 : decode cX8_append 3 = .ok (.iload_n 2, 1) := by decide +kernel
theorem dX8_append_4 : decode cX8_append 4 = .ok (.ifCond .lt 60, 3) := by decide +kernel
theorem dX8_append_7 : decode cX8_append 7 = .ok (.iload_n 1, 1) := by decide +kernel
theorem dX8_append_8 : decode cX8_append 8 = .ok (.iload_n 2, 1) := by decide +kernel
theorem dX8_append_9 : decode cX8_append 9 = .ok (.iushr, 1) := by decide +kernel
theorem dX8_append_10 : decode cX8_append 10 = .ok (.sipush 255, 3) := by decide +kernel
theorem dX8_append_13 : decode cX8_append 13 = .ok (.iand, 1) := by decide +kernel
theorem dX8_append_14 : decode cX8_append 14 = .ok (.istore_n 3, 1) := by decide +kernel
theorem dX8_append_15 : decode cX8_append 15 = .ok (.iload_n 3, 1) := by decide +kernel
theorem dX8_append_16 : decode cX8_append 16 = .ok (.ifCond .eq 42, 3) := by decide +kernel
theorem dX8_append_19 : decode cX8_append 19 = .ok (.aload_n 0, 1) := by decide +kernel
theorem dX8_append_20 : decode cX8_append 20 = .ok (.getfield 18, 3) := by decide +kernel
theorem dX8_append_23 : decode cX8_append 23 = .ok (.ifCond .lt 35, 3) := by decide +kernel
theorem dX8_append_26 : decode cX8_append 26 = .ok (.aload_n 0, 1) := by decide +kernel
theorem dX8_append_27 : decode cX8_append 27 = .ok (.getfield 18, 3) := by decide +kernel
theorem dX8_append_30 : decode cX8_append 30 = .ok (.aload_n 0, 1) := by decide +kernel
theorem dX8_append_31 : decode cX8_append 31 = .ok (.getfield 9, 3) := by decide +kernel
theorem dX8_append_34 : decode cX8_append 34 = .ok (.arraylength, 1) := by decide +kernel
theorem dX8_append_35 : decode cX8_append 35 = .ok (.if_icmp .ge 23, 3) := by decide +kernel
theorem dX8_append_38 : decode cX8_append 38 = .ok (.aload_n 0, 1) := by decide +kernel
theorem dX8_append_39 : decode cX8_append 39 = .ok (.getfield 9, 3) := by decide +kernel
theorem dX8_append_42 : decode cX8_append 42 = .ok (.aload_n 0, 1) := by decide +kernel
theorem dX8_append_43 : decode cX8_append 43 = .ok (.getfield 18, 3) := by decide +kernel
theorem dX8_append_46 : decode cX8_append 46 = .ok (.iload_n 3, 1) := by decide +kernel
theorem dX8_append_47 : decode cX8_append 47 = .ok (.iastore, 1) := by decide +kernel
theorem dX8_append_48 : decode cX8_append 48 = .ok (.aload_n 0, 1) := by decide +kernel
theorem dX8_append_49 : decode cX8_append 49 = .ok (.dup, 1) := by decide +kernel
theorem dX8_append_50 : decode cX8_append 50 = .ok (.getfield 18, 3) := by decide +kernel
theorem dX8_append_53 : decode cX8_append 53 = .ok (.iconst 1, 1) := by decide +kernel
theorem dX8_append_54 : decode cX8_append 54 = .ok (.iadd, 1) := by decide +kernel
theorem dX8_append_55 : decode cX8_append 55 = .ok (.putfield 18, 3) := by decide +kernel
theorem dX8_append_58 : decode cX8_append 58 = .ok (.iinc 2 (-8), 3) := by decide +kernel
theorem dX8_append_61 : decode cX8_append 61 = .ok (.goto (-58), 3) := by decide +kernel
theorem dX8_append_64 : decode cX8_append 64 = .ok (.return_, 1) := by decide +kernel
theorem dX8_begin_0 : decode cX8_begin 0 = .ok (.aload_n 0, 1) := by decide +kernel
theorem dX8_begin_1 : decode cX8_begin 1 = .ok (.iconst 0, 1) := by decide +kernel
theorem dX8_begin_2 : decode cX8_begin 2 = .ok (.putfield 22, 3) := by decide +kernel
theorem dX8_begin_5 : decode cX8_begin 5 = .ok (.aload_n 0, 1) := by decide +kernel
theorem dX8_begin_6 : decode cX8_begin 6 = .ok (.iconst 0, 1) := by decide +kernel
theorem dX8_begin_7 : decode cX8_begin 7 = .ok (.putfield 25, 3) := by decide +kernel
theorem dX8_begin_10 : decode cX8_begin 10 = .ok (.aload_n 0, 1) := by decide +kernel
theorem dX8_begin_11 : decode cX8_begin 11 = .ok (.iconst (-1), 1) := by decide +kernel
theorem dX8_begin_12 : decode cX8_begin 12 = .ok (.putfield 28, 3) := by decide +kernel
theorem dX8_begin_15 : decode cX8_begin 15 = .ok (.return_, 1) := by decide +kernel
theorem dX8_here_0 : decode cX8_here 0 = .ok (.aload_n 0, 1) := by decide +kernel
theorem dX8_here_1 : decode cX8_here 1 = .ok (.getfield 22, 3) := by decide +kernel
theorem dX8_here_4 : decode cX8_here 4 = .ok (.ifCond .lt 38, 3) := by decide +kernel
theorem dX8_here_7 : decode cX8_here 7 = .ok (.aload_n 0, 1) := by decide +kernel
theorem dX8_here_8 : decode cX8_here 8 = .ok (.getfield 22, 3) := by decide +kernel
theorem dX8_here_11 : decode cX8_here 11 = .ok (.aload_n 0, 1) := by decide +kernel
theorem dX8_here_12 : decode cX8_here 12 = .ok (.getfield 18, 3) := by decide +kernel
theorem dX8_here_15 : decode cX8_here 15 = .ok (.if_icmp .ge 27, 3) := by decide +kernel
theorem dX8_here_18 : decode cX8_here 18 = .ok (.aload_n 0, 1) := by decide +kernel
theorem dX8_here_19 : decode cX8_here 19 = .ok (.getfield 22, 3) := by decide +kernel
theorem dX8_here_22 : decode cX8_here 22 = .ok (.aload_n 0, 1) := by decide +kernel
theorem dX8_here_23 : decode cX8_here 23 = .ok (.getfield 9, 3) := by decide +kernel
theorem dX8_here_26 : decode cX8_here 26 = .ok (.arraylength, 1) := by decide +kernel
theorem dX8_here_27 : decode cX8_here 27 = .ok (.if_icmp .ge 15, 3) := by decide +kernel
theorem dX8_here_30 : decode cX8_here 30 = .ok (.aload_n 0, 1) := by decide +kernel
theorem dX8_here_31 : decode cX8_here 31 = .ok (.getfield 9, 3) := by decide +kernel
theorem dX8_here_34 : decode cX8_here 34 = .ok (.aload_n 0, 1) := by decide +kernel
theorem dX8_here_35 : decode cX8_here 35 = .ok (.getfield 22, 3) := by decide +kernel
theorem dX8_here_38 : decode cX8_here 38 = .ok (.iaload, 1) := by decide +kernel
theorem dX8_here_39 : decode cX8_here 39 = .ok (.goto 4, 3) := by decide +kernel
theorem dX8_here_42 : decode cX8_here 42 = .ok (.iconst 0, 1) := by decide +kernel
theorem dX8_here_43 : decode cX8_here 43 = .ok (.ireturn, 1) := by decide +kernel
theorem dX8_next_0 : decode cX8_next 0 = .ok (.iconst 0, 1) := by decide +kernel
theorem dX8_next_1 : decode cX8_next 1 = .ok (.aload_n 0, 1) := by decide +kernel
theorem dX8_next_2 : decode cX8_next 2 = .ok (.getfield 22, 3) := by decide +kernel
theorem dX8_next_5 : decode cX8_next 5 = .ok (.invokestatic 31, 3) := by decide +kernel
theorem dX8_next_8 : decode cX8_next 8 = .ok (.istore_n 1, 1) := by decide +kernel
theorem dX8_next_9 : decode cX8_next 9 = .ok (.iload_n 1, 1) := by decide +kernel
theorem dX8_next_10 : decode cX8_next 10 = .ok (.aload_n 0, 1) := by decide +kernel
theorem dX8_next_11 : decode cX8_next 11 = .ok (.getfield 18, 3) := by decide +kernel
theorem dX8_next_14 : decode cX8_next 14 = .ok (.if_icmp .ge 41, 3) := by decide +kernel
theorem dX8_next_17 : decode cX8_next 17 = .ok (.iload_n 1, 1) := by decide +kernel
theorem dX8_next_18 : decode cX8_next 18 = .ok (.aload_n 0, 1) := by decide +kernel
theorem dX8_next_19 : decode cX8_next 19 = .ok (.getfield 9, 3) := by decide +kernel
theorem dX8_next_22 : decode cX8_next 22 = .ok (.arraylength, 1) := by decide +kernel
theorem dX8_next_23 : decode cX8_next 23 = .ok (.if_icmp .ge 32, 3) := by decide +kernel
theorem dX8_next_26 : decode cX8_next 26 = .ok (.aload_n 0, 1) := by decide +kernel
theorem dX8_next_27 : decode cX8_next 27 = .ok (.getfield 9, 3) := by decide +kernel
theorem dX8_next_30 : decode cX8_next 30 = .ok (.iload_n 1, 1) := by decide +kernel
theorem dX8_next_31 : decode cX8_next 31 = .ok (.iaload, 1) := by decide +kernel
theorem dX8_next_32 : decode cX8_next 32 = .ok (.bipush 32, 2) := by decide +kernel
theorem dX8_next_34 : decode cX8_next 34 = .ok (.if_icmp .eq 15, 3) := by decide +kernel
theorem dX8_next_37 : decode cX8_next 37 = .ok (.aload_n 0, 1) := by decide +kernel
theorem dX8_next_38 : decode cX8_next 38 = .ok (.iload_n 1, 1) := by decide +kernel
theorem dX8_next_39 : decode cX8_next 39 = .ok (.putfield 22, 3) := by decide +kernel
theorem dX8_next_42 : decode cX8_next 42 = .ok (.aload_n 0, 1) := by decide +kernel
theorem dX8_next_43 : decode cX8_next 43 = .ok (.getfield 9, 3) := by decide +kernel
theorem dX8_next_46 : decode cX8_next 46 = .ok (.iload_n 1, 1) := by decide +kernel
theorem dX8_next_47 : decode cX8_next 47 = .ok (.iaload, 1) := by decide +kernel
theorem dX8_next_48 : decode cX8_next 48 = .ok (.ireturn, 1) := by decide +kernel
theorem dX8_next_49 : decode cX8_next 49 = .ok (.iinc 1 1, 3) := by decide +kernel
theorem dX8_next_52 : decode cX8_next 52 = .ok (.goto (-43), 3) := by decide +kernel
theorem dX8_next_55 : decode cX8_next 55 = .ok (.aload_n 0, 1) := by decide +kernel
theorem dX8_next_56 : decode cX8_next 56 = .ok (.aload_n 0, 1) := by decide +kernel
theorem dX8_next_57 : decode cX8_next 57 = .ok (.getfield 18, 3) := by decide +kernel
theorem dX8_next_60 : decode cX8_next 60 = .ok (.putfield 22, 3) := by decide +kernel
theorem dX8_next_63 : decode cX8_next 63 = .ok (.iconst 0, 1) := by decide +kernel
theorem dX8_next_64 : decode cX8_next 64 = .ok (.ireturn, 1) := by decide +kernel
theorem dX8_step_0 : decode cX8_step 0 = .ok (.aload_n 0, 1) := by decide +kernel
theorem dX8_step_1 : decode cX8_step 1 = .ok (.dup, 1) := by decide +kernel
theorem dX8_step_2 : decode cX8_step 2 = .ok (.getfield 22, 3) := by decide +kernel
theorem dX8_step_5 : decode cX8_step 5 = .ok (.iconst 1, 1) := by decide +kernel
theorem dX8_step_6 : decode cX8_step 6 = .ok (.iadd, 1) := by decide +kernel
theorem dX8_step_7 : decode cX8_step 7 = .ok (.putfield 22, 3) := by decide +kernel
theorem dX8_step_10 : decode cX8_step 10 = .ok (.return_, 1) := by decide +kernel
theorem dX8_take_0 : decode cX8_take 0 = .ok (.aload_n 0, 1) := by decide +kernel
theorem dX8_take_1 : decode cX8_take 1 = .ok (.invokevirtual 37, 3) := by decide +kernel
theorem dX8_take_4 : decode cX8_take 4 = .ok (.iload_n 1, 1) := by decide +kernel
theorem dX8_take_5 : decode cX8_take 5 = .ok (.if_icmp .eq 5, 3) := by decide +kernel
theorem dX8_take_8 : decode cX8_take 8 = .ok (.iconst 0, 1) := by decide +kernel
theorem dX8_take_9 : decode cX8_take 9 = .ok (.ireturn, 1) := by decide +kernel
theorem dX8_take_10 : decode cX8_take 10 = .ok (.aload_n 0, 1) := by decide +kernel
theorem dX8_take_11 : decode cX8_take 11 = .ok (.dup, 1) := by decide +kernel
theorem dX8_take_12 : decode cX8_take 12 = .ok (.getfield 22, 3) := by decide +kernel
theorem dX8_take_15 : decode cX8_take 15 = .ok (.iconst 1, 1) := by decide +kernel
theorem dX8_take_16 : decode cX8_take 16 = .ok (.iadd, 1) := by decide +kernel
theorem dX8_take_17 : decode cX8_take 17 = .ok (.putfield 22, 3) := by decide +kernel
theorem dX8_take_20 : decode cX8_take 20 = .ok (.iconst 1, 1) := by decide +kernel
theorem dX8_take_21 : decode cX8_take 21 = .ok (.ireturn, 1) := by decide +kernel
theorem dX8_expect_0 : decode cX8_expect 0 = .ok (.aload_n 0, 1) := by decide +kernel
theorem dX8_expect_1 : decode cX8_expect 1 = .ok (.invokevirtual 37, 3) := by decide +kernel
theorem dX8_expect_4 : decode cX8_expect 4 = .ok (.iload_n 1, 1) := by decide +kernel
theorem dX8_expect_5 : decode cX8_expect 5 = .ok (.if_icmp .eq 13, 3) := by decide +kernel
theorem dX8_expect_8 : decode cX8_expect 8 = .ok (.aload_n 0, 1) := by decide +kernel
theorem dX8_expect_9 : decode cX8_expect 9 = .ok (.aload_n 0, 1) := by decide +kernel
theorem dX8_expect_10 : decode cX8_expect 10 = .ok (.getfield 22, 3) := by decide +kernel
theorem dX8_expect_13 : decode cX8_expect 13 = .ok (.putfield 28, 3) := by decide +kernel
theorem dX8_expect_16 : decode cX8_expect 16 = .ok (.iconst 0, 1) := by decide +kernel
theorem dX8_expect_17 : decode cX8_expect 17 = .ok (.ireturn, 1) := by decide +kernel
theorem dX8_expect_18 : decode cX8_expect 18 = .ok (.aload_n 0, 1) := by decide +kernel
theorem dX8_expect_19 : decode cX8_expect 19 = .ok (.dup, 1) := by decide +kernel
theorem dX8_expect_20 : decode cX8_expect 20 = .ok (.getfield 22, 3) := by decide +kernel
theorem dX8_expect_23 : decode cX8_expect 23 = .ok (.iconst 1, 1) := by decide +kernel
theorem dX8_expect_24 : decode cX8_expect 24 = .ok (.iadd, 1) := by decide +kernel
theorem dX8_expect_25 : decode cX8_expect 25 = .ok (.putfield 22, 3) := by decide +kernel
theorem dX8_expect_28 : decode cX8_expect 28 = .ok (.iconst 1, 1) := by decide +kernel
theorem dX8_expect_29 : decode cX8_expect 29 = .ok (.ireturn, 1) := by decide +kernel
theorem dX8_expectEnd_0 : decode cX8_expectEnd 0 = .ok (.aload_n 0, 1) := by decide +kernel
theorem dX8_expectEnd_1 : decode cX8_expectEnd 1 = .ok (.invokevirtual 37, 3) := by decide +kernel
theorem dX8_expectEnd_4 : decode cX8_expectEnd 4 = .ok (.ifCond .eq 10, 3) := by decide +kernel
theorem dX8_expectEnd_7 : decode cX8_expectEnd 7 = .ok (.aload_n 0, 1) := by decide +kernel
theorem dX8_expectEnd_8 : decode cX8_expectEnd 8 = .ok (.invokevirtual 41, 3) := by decide +kernel
theorem dX8_expectEnd_11 : decode cX8_expectEnd 11 = .ok (.ifCond .eq 7, 3) := by decide +kernel
theorem dX8_expectEnd_14 : decode cX8_expectEnd 14 = .ok (.iconst 1, 1) := by decide +kernel
theorem dX8_expectEnd_15 : decode cX8_expectEnd 15 = .ok (.goto 4, 3) := by decide +kernel
theorem dX8_expectEnd_18 : decode cX8_expectEnd 18 = .ok (.iconst 0, 1) := by decide +kernel
theorem dX8_expectEnd_19 : decode cX8_expectEnd 19 = .ok (.ireturn, 1) := by decide +kernel
theorem dX8_fail_0 : decode cX8_fail 0 = .ok (.aload_n 0, 1) := by decide +kernel
theorem dX8_fail_1 : decode cX8_fail 1 = .ok (.aload_n 0, 1) := by decide +kernel
theorem dX8_fail_2 : decode cX8_fail 2 = .ok (.getfield 22, 3) := by decide +kernel
theorem dX8_fail_5 : decode cX8_fail 5 = .ok (.putfield 28, 3) := by decide +kernel
theorem dX8_fail_8 : decode cX8_fail 8 = .ok (.iconst 0, 1) := by decide +kernel
theorem dX8_fail_9 : decode cX8_fail 9 = .ok (.ireturn, 1) := by decide +kernel
theorem dX8_write_0 : decode cX8_write 0 = .ok (.aload_n 0, 1) := by decide +kernel
theorem dX8_write_1 : decode cX8_write 1 = .ok (.getfield 25, 3) := by decide +kernel
theorem dX8_write_4 : decode cX8_write 4 = .ok (.ifCond .lt 35, 3) := by decide +kernel
theorem dX8_write_7 : decode cX8_write 7 = .ok (.aload_n 0, 1) := by decide +kernel
theorem dX8_write_8 : decode cX8_write 8 = .ok (.getfield 25, 3) := by decide +kernel
theorem dX8_write_11 : decode cX8_write 11 = .ok (.aload_n 0, 1) := by decide +kernel
theorem dX8_write_12 : decode cX8_write 12 = .ok (.getfield 15, 3) := by decide +kernel
theorem dX8_write_15 : decode cX8_write 15 = .ok (.arraylength, 1) := by decide +kernel
theorem dX8_write_16 : decode cX8_write 16 = .ok (.if_icmp .ge 23, 3) := by decide +kernel
theorem dX8_write_19 : decode cX8_write 19 = .ok (.aload_n 0, 1) := by decide +kernel
theorem dX8_write_20 : decode cX8_write 20 = .ok (.getfield 15, 3) := by decide +kernel
theorem dX8_write_23 : decode cX8_write 23 = .ok (.aload_n 0, 1) := by decide +kernel
theorem dX8_write_24 : decode cX8_write 24 = .ok (.getfield 25, 3) := by decide +kernel
theorem dX8_write_27 : decode cX8_write 27 = .ok (.iload_n 1, 1) := by decide +kernel
theorem dX8_write_28 : decode cX8_write 28 = .ok (.iastore, 1) := by decide +kernel
theorem dX8_write_29 : decode cX8_write 29 = .ok (.aload_n 0, 1) := by decide +kernel
theorem dX8_write_30 : decode cX8_write 30 = .ok (.dup, 1) := by decide +kernel
theorem dX8_write_31 : decode cX8_write 31 = .ok (.getfield 25, 3) := by decide +kernel
theorem dX8_write_34 : decode cX8_write 34 = .ok (.iconst 1, 1) := by decide +kernel
theorem dX8_write_35 : decode cX8_write 35 = .ok (.iadd, 1) := by decide +kernel
theorem dX8_write_36 : decode cX8_write 36 = .ok (.putfield 25, 3) := by decide +kernel
theorem dX8_write_39 : decode cX8_write 39 = .ok (.return_, 1) := by decide +kernel
theorem dX8_rewrite_0 : decode cX8_rewrite 0 = .ok (.iload_n 1, 1) := by decide +kernel
theorem dX8_rewrite_1 : decode cX8_rewrite 1 = .ok (.ifCond .lt 19, 3) := by decide +kernel
theorem dX8_rewrite_4 : decode cX8_rewrite 4 = .ok (.iload_n 1, 1) := by decide +kernel
theorem dX8_rewrite_5 : decode cX8_rewrite 5 = .ok (.aload_n 0, 1) := by decide +kernel
theorem dX8_rewrite_6 : decode cX8_rewrite 6 = .ok (.getfield 15, 3) := by decide +kernel
theorem dX8_rewrite_9 : decode cX8_rewrite 9 = .ok (.arraylength, 1) := by decide +kernel
theorem dX8_rewrite_10 : decode cX8_rewrite 10 = .ok (.if_icmp .ge 10, 3) := by decide +kernel
theorem dX8_rewrite_13 : decode cX8_rewrite 13 = .ok (.aload_n 0, 1) := by decide +kernel
theorem dX8_rewrite_14 : decode cX8_rewrite 14 = .ok (.getfield 15, 3) := by decide +kernel
theorem dX8_rewrite_17 : decode cX8_rewrite 17 = .ok (.iload_n 1, 1) := by decide +kernel
theorem dX8_rewrite_18 : decode cX8_rewrite 18 = .ok (.iload_n 2, 1) := by decide +kernel
theorem dX8_rewrite_19 : decode cX8_rewrite 19 = .ok (.iastore, 1) := by decide +kernel
theorem dX8_rewrite_20 : decode cX8_rewrite 20 = .ok (.return_, 1) := by decide +kernel
theorem dX8_writtenCode_0 : decode cX8_writtenCode 0 = .ok (.aload_n 0, 1) := by decide +kernel
theorem dX8_writtenCode_1 : decode cX8_writtenCode 1 = .ok (.getfield 15, 3) := by decide +kernel
theorem dX8_writtenCode_4 : decode cX8_writtenCode 4 = .ok (.iconst 0, 1) := by decide +kernel
theorem dX8_writtenCode_5 : decode cX8_writtenCode 5 = .ok (.aload_n 0, 1) := by decide +kernel
theorem dX8_writtenCode_6 : decode cX8_writtenCode 6 = .ok (.getfield 25, 3) := by decide +kernel
theorem dX8_writtenCode_9 : decode cX8_writtenCode 9 = .ok (.aload_n 0, 1) := by decide +kernel
theorem dX8_writtenCode_10 : decode cX8_writtenCode 10 = .ok (.getfield 15, 3) := by decide +kernel
theorem dX8_writtenCode_13 : decode cX8_writtenCode 13 = .ok (.arraylength, 1) := by decide +kernel
theorem dX8_writtenCode_14 : decode cX8_writtenCode 14 = .ok (.invokestatic 45, 3) := by decide +kernel
theorem dX8_writtenCode_17 : decode cX8_writtenCode 17 = .ok (.invokestatic 31, 3) := by decide +kernel
theorem dX8_writtenCode_20 : decode cX8_writtenCode 20 = .ok (.invokestatic 48, 3) := by decide +kernel
theorem dX8_writtenCode_23 : decode cX8_writtenCode 23 = .ok (.areturn, 1) := by decide +kernel
theorem dX9_init_0 : decode cX9_init 0 = .ok (.aload_n 0, 1) := by decide +kernel
theorem dX9_init_1 : decode cX9_init 1 = .ok (.invokespecial 1, 3) := by decide +kernel
theorem dX9_init_4 : decode cX9_init 4 = .ok (.aload_n 0, 1) := by decide +kernel
theorem dX9_init_5 : decode cX9_init 5 = .ok (.aload_n 1, 1) := by decide +kernel
theorem dX9_init_6 : decode cX9_init 6 = .ok (.putfield 7, 3) := by decide +kernel
theorem dX9_init_9 : decode cX9_init 9 = .ok (.return_, 1) := by decide +kernel
theorem dX10_init_0 : decode cX10_init 0 = .ok (.aload_n 0, 1) := by decide +kernel
theorem dX10_init_1 : decode cX10_init 1 = .ok (.invokespecial 3, 3) := by decide +kernel
theorem dX10_init_4 : decode cX10_init 4 = .ok (.aload_n 0, 1) := by decide +kernel
theorem dX10_init_5 : decode cX10_init 5 = .ok (.aload_n 1, 1) := by decide +kernel
theorem dX10_init_6 : decode cX10_init 6 = .ok (.putfield 9, 3) := by decide +kernel
theorem dX10_init_9 : decode cX10_init 9 = .ok (.aload_n 0, 1) := by decide +kernel
theorem dX10_init_10 : decode cX10_init 10 = .ok (.aload_n 2, 1) := by decide +kernel
theorem dX10_init_11 : decode cX10_init 11 = .ok (.putfield 15, 3) := by decide +kernel
theorem dX10_init_14 : decode cX10_init 14 = .ok (.aload_n 0, 1) := by decide +kernel
theorem dX10_init_15 : decode cX10_init 15 = .ok (.aload_n 3, 1) := by decide +kernel
theorem dX10_init_16 : decode cX10_init 16 = .ok (.putfield 19, 3) := by decide +kernel
theorem dX10_init_19 : decode cX10_init 19 = .ok (.return_, 1) := by decide +kernel
theorem dX10_read_0 : decode cX10_read 0 = .ok (.aload_n 0, 1) := by decide +kernel
theorem dX10_read_1 : decode cX10_read 1 = .ok (.getfield 9, 3) := by decide +kernel
theorem dX10_read_4 : decode cX10_read 4 = .ok (.invokevirtual 22, 3) := by decide +kernel
theorem dX10_read_7 : decode cX10_read 7 = .ok (.aload_n 0, 1) := by decide +kernel
theorem dX10_read_8 : decode cX10_read 8 = .ok (.invokevirtual 27, 3) := by decide +kernel
theorem dX10_read_11 : decode cX10_read 11 = .ok (.istore_n 1, 1) := by decide +kernel
theorem dX10_read_12 : decode cX10_read 12 = .ok (.sipush 200, 3) := by decide +kernel
theorem dX10_read_15 : decode cX10_read 15 = .ok (.istore_n 2, 1) := by decide +kernel
theorem dX10_read_16 : decode cX10_read 16 = .ok (.iload_n 2, 1) := by decide +kernel
theorem dX10_read_17 : decode cX10_read 17 = .ok (.ifCond .le 30, 3) := by decide +kernel
theorem dX10_read_20 : decode cX10_read 20 = .ok (.iload_n 1, 1) := by decide +kernel
theorem dX10_read_21 : decode cX10_read 21 = .ok (.ifCond .eq 26, 3) := by decide +kernel
theorem dX10_read_24 : decode cX10_read 24 = .ok (.aload_n 0, 1) := by decide +kernel
theorem dX10_read_25 : decode cX10_read 25 = .ok (.getfield 9, 3) := by decide +kernel
theorem dX10_read_28 : decode cX10_read 28 = .ok (.bipush 59, 2) := by decide +kernel
theorem dX10_read_30 : decode cX10_read 30 = .ok (.invokevirtual 31, 3) := by decide +kernel
theorem dX10_read_33 : decode cX10_read 33 = .ok (.ifCond .eq 14, 3) := by decide +kernel
theorem dX10_read_36 : decode cX10_read 36 = .ok (.aload_n 0, 1) := by decide +kernel
theorem dX10_read_37 : decode cX10_read 37 = .ok (.invokevirtual 27, 3) := by decide +kernel
theorem dX10_read_40 : decode cX10_read 40 = .ok (.istore_n 1, 1) := by decide +kernel
theorem dX10_read_41 : decode cX10_read 41 = .ok (.iinc 2 (-1), 3) := by decide +kernel
theorem dX10_read_44 : decode cX10_read 44 = .ok (.goto (-28), 3) := by decide +kernel
theorem dX10_read_47 : decode cX10_read 47 = .ok (.iload_n 1, 1) := by decide +kernel
theorem dX10_read_48 : decode cX10_read 48 = .ok (.ifCond .eq 17, 3) := by decide +kernel
theorem dX10_read_51 : decode cX10_read 51 = .ok (.aload_n 0, 1) := by decide +kernel
theorem dX10_read_52 : decode cX10_read 52 = .ok (.getfield 9, 3) := by decide +kernel
theorem dX10_read_55 : decode cX10_read 55 = .ok (.invokevirtual 35, 3) := by decide +kernel
theorem dX10_read_58 : decode cX10_read 58 = .ok (.ifCond .eq 7, 3) := by decide +kernel
theorem dX10_read_61 : decode cX10_read 61 = .ok (.iconst (-1), 1) := by decide +kernel
theorem dX10_read_62 : decode cX10_read 62 = .ok (.goto 10, 3) := by decide +kernel
theorem dX10_read_65 : decode cX10_read 65 = .ok (.aload_n 0, 1) := by decide +kernel
theorem dX10_read_66 : decode cX10_read 66 = .ok (.getfield 9, 3) := by decide +kernel
theorem dX10_read_69 : decode cX10_read 69 = .ok (.getfield 38, 3) := by decide +kernel
theorem dX10_read_72 : decode cX10_read 72 = .ok (.ireturn, 1) := by decide +kernel
theorem dX10_clause_0 : decode cX10_clause 0 = .ok (.aload_n 0, 1) := by decide +kernel
theorem dX10_clause_1 : decode cX10_clause 1 = .ok (.getfield 9, 3) := by decide +kernel
theorem dX10_clause_4 : decode cX10_clause 4 = .ok (.invokevirtual 42, 3) := by decide +kernel
theorem dX10_clause_7 : decode cX10_clause 7 = .ok (.istore_n 1, 1) := by decide +kernel
theorem dX10_clause_8 : decode cX10_clause 8 = .ok (.aload_n 0, 1) := by decide +kernel
theorem dX10_clause_9 : decode cX10_clause 9 = .ok (.getfield 15, 3) := by decide +kernel
theorem dX10_clause_12 : decode cX10_clause 12 = .ok (.iload_n 1, 1) := by decide +kernel
theorem dX10_clause_13 : decode cX10_clause 13 = .ok (.i2c, 1) := by decide +kernel
theorem dX10_clause_14 : decode cX10_clause 14 = .ok (.invokevirtual 46, 3) := by decide +kernel
theorem dX10_clause_17 : decode cX10_clause 17 = .ok (.ifCond .ge 11, 3) := by decide +kernel
theorem dX10_clause_20 : decode cX10_clause 20 = .ok (.aload_n 0, 1) := by decide +kernel
theorem dX10_clause_21 : decode cX10_clause 21 = .ok (.getfield 9, 3) := by decide +kernel
theorem dX10_clause_24 : decode cX10_clause 24 = .ok (.invokevirtual 52, 3) := by decide +kernel
theorem dX10_clause_27 : decode cX10_clause 27 = .ok (.ireturn, 1) := by decide +kernel
theorem dX10_clause_28 : decode cX10_clause 28 = .ok (.aload_n 0, 1) := by decide +kernel
theorem dX10_clause_29 : decode cX10_clause 29 = .ok (.getfield 9, 3) := by decide +kernel
theorem dX10_clause_32 : decode cX10_clause 32 = .ok (.invokevirtual 55, 3) := by decide +kernel
theorem dX10_clause_35 : decode cX10_clause 35 = .ok (.aload_n 0, 1) := by decide +kernel
theorem dX10_clause_36 : decode cX10_clause 36 = .ok (.getfield 9, 3) := by decide +kernel
theorem dX10_clause_39 : decode cX10_clause 39 = .ok (.getfield 58, 3) := by decide +kernel
theorem dX10_clause_42 : decode cX10_clause 42 = .ok (.istore_n 2, 1) := by decide +kernel
theorem dX10_clause_43 : decode cX10_clause 43 = .ok (.aload_n 0, 1) := by decide +kernel
theorem dX10_clause_44 : decode cX10_clause 44 = .ok (.getfield 9, 3) := by decide +kernel
theorem dX10_clause_47 : decode cX10_clause 47 = .ok (.iload_n 1, 1) := by decide +kernel
theorem dX10_clause_48 : decode cX10_clause 48 = .ok (.invokevirtual 61, 3) := by decide +kernel
theorem dX10_clause_51 : decode cX10_clause 51 = .ok (.aload_n 0, 1) := by decide +kernel
theorem dX10_clause_52 : decode cX10_clause 52 = .ok (.getfield 9, 3) := by decide +kernel
theorem dX10_clause_55 : decode cX10_clause 55 = .ok (.iconst 0, 1) := by decide +kernel
theorem dX10_clause_56 : decode cX10_clause 56 = .ok (.invokevirtual 61, 3) := by decide +kernel
theorem dX10_clause_59 : decode cX10_clause 59 = .ok (.aload_n 0, 1) := by decide +kernel
theorem dX10_clause_60 : decode cX10_clause 60 = .ok (.getfield 9, 3) := by decide +kernel
theorem dX10_clause_63 : decode cX10_clause 63 = .ok (.iconst 0, 1) := by decide +kernel
theorem dX10_clause_64 : decode cX10_clause 64 = .ok (.invokevirtual 61, 3) := by decide +kernel
theorem dX10_clause_67 : decode cX10_clause 67 = .ok (.aload_n 0, 1) := by decide +kernel
theorem dX10_clause_68 : decode cX10_clause 68 = .ok (.getfield 9, 3) := by decide +kernel
theorem dX10_clause_71 : decode cX10_clause 71 = .ok (.getfield 58, 3) := by decide +kernel
theorem dX10_clause_74 : decode cX10_clause 74 = .ok (.istore_n 3, 1) := by decide +kernel
theorem dX10_clause_75 : decode cX10_clause 75 = .ok (.aload_n 0, 1) := by decide +kernel
theorem dX10_clause_76 : decode cX10_clause 76 = .ok (.getfield 9, 3) := by decide +kernel
theorem dX10_clause_79 : decode cX10_clause 79 = .ok (.bipush 58, 2) := by decide +kernel
theorem dX10_clause_81 : decode cX10_clause 81 = .ok (.invokevirtual 65, 3) := by decide +kernel
theorem dX10_clause_84 : decode cX10_clause 84 = .ok (.ifCond .eq 10, 3) := by decide +kernel
theorem dX10_clause_87 : decode cX10_clause 87 = .ok (.aload_n 0, 1) := by decide +kernel
theorem dX10_clause_88 : decode cX10_clause 88 = .ok (.invokevirtual 68, 3) := by decide +kernel
theorem dX10_clause_91 : decode cX10_clause 91 = .ok (.ifCond .ne 5, 3) := by decide +kernel
theorem dX10_clause_94 : decode cX10_clause 94 = .ok (.iconst 0, 1) := by decide +kernel
theorem dX10_clause_95 : decode cX10_clause 95 = .ok (.ireturn, 1) := by decide +kernel
theorem dX10_clause_96 : decode cX10_clause 96 = .ok (.aload_n 0, 1) := by decide +kernel
theorem dX10_clause_97 : decode cX10_clause 97 = .ok (.getfield 9, 3) := by decide +kernel
theorem dX10_clause_100 : decode cX10_clause 100 = .ok (.bipush 63, 2) := by decide +kernel
theorem dX10_clause_102 : decode cX10_clause 102 = .ok (.invokevirtual 31, 3) := by decide +kernel
theorem dX10_clause_105 : decode cX10_clause 105 = .ok (.ifCond .eq 40, 3) := by decide +kernel
theorem dX10_clause_108 : decode cX10_clause 108 = .ok (.aload_n 0, 1) := by decide +kernel
theorem dX10_clause_109 : decode cX10_clause 109 = .ok (.getfield 9, 3) := by decide +kernel
theorem dX10_clause_112 : decode cX10_clause 112 = .ok (.iload_n 2, 1) := by decide +kernel
theorem dX10_clause_113 : decode cX10_clause 113 = .ok (.iconst 1, 1) := by decide +kernel
theorem dX10_clause_114 : decode cX10_clause 114 = .ok (.iadd, 1) := by decide +kernel
theorem dX10_clause_115 : decode cX10_clause 115 = .ok (.aload_n 0, 1) := by decide +kernel
theorem dX10_clause_116 : decode cX10_clause 116 = .ok (.getfield 9, 3) := by decide +kernel
theorem dX10_clause_119 : decode cX10_clause 119 = .ok (.getfield 58, 3) := by decide +kernel
theorem dX10_clause_122 : decode cX10_clause 122 = .ok (.iload_n 3, 1) := by decide +kernel
theorem dX10_clause_123 : decode cX10_clause 123 = .ok (.isub, 1) := by decide +kernel
theorem dX10_clause_124 : decode cX10_clause 124 = .ok (.invokevirtual 71, 3) := by decide +kernel
theorem dX10_clause_127 : decode cX10_clause 127 = .ok (.aload_n 0, 1) := by decide +kernel
theorem dX10_clause_128 : decode cX10_clause 128 = .ok (.getfield 9, 3) := by decide +kernel
theorem dX10_clause_131 : decode cX10_clause 131 = .ok (.getfield 58, 3) := by decide +kernel
theorem dX10_clause_134 : decode cX10_clause 134 = .ok (.istore_n 3, 1) := by decide +kernel
theorem dX10_clause_135 : decode cX10_clause 135 = .ok (.aload_n 0, 1) := by decide +kernel
theorem dX10_clause_136 : decode cX10_clause 136 = .ok (.iconst 0, 1) := by decide +kernel
theorem dX10_clause_137 : decode cX10_clause 137 = .ok (.invokevirtual 75, 3) := by decide +kernel
theorem dX10_clause_140 : decode cX10_clause 140 = .ok (.ifCond .ne 5, 3) := by decide +kernel
theorem dX10_clause_143 : decode cX10_clause 143 = .ok (.iconst 0, 1) := by decide +kernel
theorem dX10_clause_144 : decode cX10_clause 144 = .ok (.ireturn, 1) := by decide +kernel
theorem dX10_clause_145 : decode cX10_clause 145 = .ok (.aload_n 0, 1) := by decide +kernel
theorem dX10_clause_146 : decode cX10_clause 146 = .ok (.getfield 9, 3) := by decide +kernel
theorem dX10_clause_149 : decode cX10_clause 149 = .ok (.iload_n 2, 1) := by decide +kernel
theorem dX10_clause_150 : decode cX10_clause 150 = .ok (.iconst 2, 1) := by decide +kernel
theorem dX10_clause_151 : decode cX10_clause 151 = .ok (.iadd, 1) := by decide +kernel
theorem dX10_clause_152 : decode cX10_clause 152 = .ok (.aload_n 0, 1) := by decide +kernel
theorem dX10_clause_153 : decode cX10_clause 153 = .ok (.getfield 9, 3) := by decide +kernel
theorem dX10_clause_156 : decode cX10_clause 156 = .ok (.getfield 58, 3) := by decide +kernel
theorem dX10_clause_159 : decode cX10_clause 159 = .ok (.iload_n 3, 1) := by decide +kernel
theorem dX10_clause_160 : decode cX10_clause 160 = .ok (.isub, 1) := by decide +kernel
theorem dX10_clause_161 : decode cX10_clause 161 = .ok (.invokevirtual 71, 3) := by decide +kernel
theorem dX10_clause_164 : decode cX10_clause 164 = .ok (.iconst 1, 1) := by decide +kernel
theorem dX10_clause_165 : decode cX10_clause 165 = .ok (.ireturn, 1) := by decide +kernel
theorem dX10_opening_0 : decode cX10_opening 0 = .ok (.aload_n 0, 1) := by decide +kernel
theorem dX10_opening_1 : decode cX10_opening 1 = .ok (.getfield 9, 3) := by decide +kernel
theorem dX10_opening_4 : decode cX10_opening 4 = .ok (.invokevirtual 42, 3) := by decide +kernel
theorem dX10_opening_7 : decode cX10_opening 7 = .ok (.istore_n 1, 1) := by decide +kernel
theorem dX10_opening_8 : decode cX10_opening 8 = .ok (.iload_n 1, 1) := by decide +kernel
theorem dX10_opening_9 : decode cX10_opening 9 = .ok (.bipush 33, 2) := by decide +kernel
theorem dX10_opening_11 : decode cX10_opening 11 = .ok (.if_icmp .eq 9, 3) := by decide +kernel
theorem dX10_opening_14 : decode cX10_opening 14 = .ok (.iload_n 1, 1) := by decide +kernel
theorem dX10_opening_15 : decode cX10_opening 15 = .ok (.bipush 40, 2) := by decide +kernel
theorem dX10_opening_17 : decode cX10_opening 17 = .ok (.if_icmp .ne 25, 3) := by decide +kernel
theorem dX10_opening_20 : decode cX10_opening 20 = .ok (.aload_n 0, 1) := by decide +kernel
theorem dX10_opening_21 : decode cX10_opening 21 = .ok (.iconst 0, 1) := by decide +kernel
theorem dX10_opening_22 : decode cX10_opening 22 = .ok (.iconst 0, 1) := by decide +kernel
theorem dX10_opening_23 : decode cX10_opening 23 = .ok (.invokevirtual 78, 3) := by decide +kernel
theorem dX10_opening_26 : decode cX10_opening 26 = .ok (.ifCond .eq 14, 3) := by decide +kernel
theorem dX10_opening_29 : decode cX10_opening 29 = .ok (.aload_n 0, 1) := by decide +kernel
theorem dX10_opening_30 : decode cX10_opening 30 = .ok (.invokevirtual 82, 3) := by decide +kernel
theorem dX10_opening_33 : decode cX10_opening 33 = .ok (.ifCond .eq 7, 3) := by decide +kernel
theorem dX10_opening_36 : decode cX10_opening 36 = .ok (.iconst 1, 1) := by decide +kernel
theorem dX10_opening_37 : decode cX10_opening 37 = .ok (.goto 4, 3) := by decide +kernel
theorem dX10_opening_40 : decode cX10_opening 40 = .ok (.iconst 0, 1) := by decide +kernel
theorem dX10_opening_41 : decode cX10_opening 41 = .ok (.ireturn, 1) := by decide +kernel
theorem dX10_opening_42 : decode cX10_opening 42 = .ok (.aload_n 0, 1) := by decide +kernel
theorem dX10_opening_43 : decode cX10_opening 43 = .ok (.iconst 0, 1) := by decide +kernel
theorem dX10_opening_44 : decode cX10_opening 44 = .ok (.invokevirtual 75, 3) := by decide +kernel
theorem dX10_opening_47 : decode cX10_opening 47 = .ok (.ifCond .ne 5, 3) := by decide +kernel
theorem dX10_opening_50 : decode cX10_opening 50 = .ok (.iconst 0, 1) := by decide +kernel
theorem dX10_opening_51 : decode cX10_opening 51 = .ok (.ireturn, 1) := by decide +kernel
theorem dX10_opening_52 : decode cX10_opening 52 = .ok (.aload_n 0, 1) := by decide +kernel
theorem dX10_opening_53 : decode cX10_opening 53 = .ok (.getfield 9, 3) := by decide +kernel
theorem dX10_opening_56 : decode cX10_opening 56 = .ok (.invokevirtual 42, 3) := by decide +kernel
theorem dX10_opening_59 : decode cX10_opening 59 = .ok (.invokestatic 85, 3) := by decide +kernel
theorem dX10_opening_62 : decode cX10_opening 62 = .ok (.ifCond .eq 25, 3) := by decide +kernel
theorem dX10_opening_65 : decode cX10_opening 65 = .ok (.aload_n 0, 1) := by decide +kernel
theorem dX10_opening_66 : decode cX10_opening 66 = .ok (.iconst 0, 1) := by decide +kernel
theorem dX10_opening_67 : decode cX10_opening 67 = .ok (.iconst 1, 1) := by decide +kernel
theorem dX10_opening_68 : decode cX10_opening 68 = .ok (.invokevirtual 78, 3) := by decide +kernel
theorem dX10_opening_71 : decode cX10_opening 71 = .ok (.ifCond .eq 14, 3) := by decide +kernel
theorem dX10_opening_74 : decode cX10_opening 74 = .ok (.aload_n 0, 1) := by decide +kernel
theorem dX10_opening_75 : decode cX10_opening 75 = .ok (.invokevirtual 82, 3) := by decide +kernel
theorem dX10_opening_78 : decode cX10_opening 78 = .ok (.ifCond .eq 7, 3) := by decide +kernel
theorem dX10_opening_81 : decode cX10_opening 81 = .ok (.iconst 1, 1) := by decide +kernel
theorem dX10_opening_82 : decode cX10_opening 82 = .ok (.goto 4, 3) := by decide +kernel
theorem dX10_opening_85 : decode cX10_opening 85 = .ok (.iconst 0, 1) := by decide +kernel
theorem dX10_opening_86 : decode cX10_opening 86 = .ok (.ireturn, 1) := by decide +kernel
theorem dX10_opening_87 : decode cX10_opening 87 = .ok (.aload_n 0, 1) := by decide +kernel
theorem dX10_opening_88 : decode cX10_opening 88 = .ok (.getfield 9, 3) := by decide +kernel
theorem dX10_opening_91 : decode cX10_opening 91 = .ok (.invokevirtual 42, 3) := by decide +kernel
theorem dX10_opening_94 : decode cX10_opening 94 = .ok (.bipush 63, 2) := by decide +kernel
theorem dX10_opening_96 : decode cX10_opening 96 = .ok (.if_icmp .ne 13, 3) := by decide +kernel
theorem dX10_opening_99 : decode cX10_opening 99 = .ok (.aload_n 0, 1) := by decide +kernel
theorem dX10_opening_100 : decode cX10_opening 100 = .ok (.getfield 9, 3) := by decide +kernel
theorem dX10_opening_103 : decode cX10_opening 103 = .ok (.invokevirtual 52, 3) := by decide +kernel
theorem dX10_opening_106 : decode cX10_opening 106 = .ok (.ifCond .eq 7, 3) := by decide +kernel
theorem dX10_opening_109 : decode cX10_opening 109 = .ok (.iconst 1, 1) := by decide +kernel
theorem dX10_opening_110 : decode cX10_opening 110 = .ok (.goto 4, 3) := by decide +kernel
theorem dX10_opening_113 : decode cX10_opening 113 = .ok (.iconst 0, 1) := by decide +kernel
theorem dX10_opening_114 : decode cX10_opening 114 = .ok (.ireturn, 1) := by decide +kernel
theorem dX10_standsAtMark_0 : decode cX10_standsAtMark 0 = .ok (.aload_n 0, 1) := by decide +kernel
theorem dX10_standsAtMark_1 : decode cX10_standsAtMark 1 = .ok (.getfield 9, 3) := by decide +kernel
theorem dX10_standsAtMark_4 : decode cX10_standsAtMark 4 = .ok (.invokevirtual 42, 3) := by decide +kernel
theorem dX10_standsAtMark_7 : decode cX10_standsAtMark 7 = .ok (.bipush 63, 2) := by decide +kernel
theorem dX10_standsAtMark_9 : decode cX10_standsAtMark 9 = .ok (.if_icmp .eq 13, 3) := by decide +kernel
theorem dX10_standsAtMark_12 : decode cX10_standsAtMark 12 = .ok (.aload_n 0, 1) := by decide +kernel
theorem dX10_standsAtMark_13 : decode cX10_standsAtMark 13 = .ok (.getfield 9, 3) := by decide +kernel
theorem dX10_standsAtMark_16 : decode cX10_standsAtMark 16 = .ok (.invokevirtual 52, 3) := by decide +kernel
theorem dX10_standsAtMark_19 : decode cX10_standsAtMark 19 = .ok (.ifCond .eq 7, 3) := by decide +kernel
theorem dX10_standsAtMark_22 : decode cX10_standsAtMark 22 = .ok (.iconst 1, 1) := by decide +kernel
theorem dX10_standsAtMark_23 : decode cX10_standsAtMark 23 = .ok (.goto 4, 3) := by decide +kernel
theorem dX10_standsAtMark_26 : decode cX10_standsAtMark 26 = .ok (.iconst 0, 1) := by decide +kernel
theorem dX10_standsAtMark_27 : decode cX10_standsAtMark 27 = .ok (.ireturn, 1) := by decide +kernel
theorem dX10_condition_0 : decode cX10_condition 0 = .ok (.aload_n 0, 1) := by decide +kernel
theorem dX10_condition_1 : decode cX10_condition 1 = .ok (.iload_n 1, 1) := by decide +kernel
theorem dX10_condition_2 : decode cX10_condition 2 = .ok (.iload_n 2, 1) := by decide +kernel
theorem dX10_condition_3 : decode cX10_condition 3 = .ok (.invokevirtual 88, 3) := by decide +kernel
theorem dX10_condition_6 : decode cX10_condition 6 = .ok (.ifCond .ne 5, 3) := by decide +kernel
theorem dX10_condition_9 : decode cX10_condition 9 = .ok (.iconst 0, 1) := by decide +kernel
theorem dX10_condition_10 : decode cX10_condition 10 = .ok (.ireturn, 1) := by decide +kernel
theorem dX10_condition_11 : decode cX10_condition 11 = .ok (.sipush 200, 3) := by decide +kernel
theorem dX10_condition_14 : decode cX10_condition 14 = .ok (.istore_n 3, 1) := by decide +kernel
theorem dX10_condition_15 : decode cX10_condition 15 = .ok (.iload_n 3, 1) := by decide +kernel
theorem dX10_condition_16 : decode cX10_condition 16 = .ok (.ifCond .le 42, 3) := by decide +kernel
theorem dX10_condition_19 : decode cX10_condition 19 = .ok (.aload_n 0, 1) := by decide +kernel
theorem dX10_condition_20 : decode cX10_condition 20 = .ok (.getfield 9, 3) := by decide +kernel
theorem dX10_condition_23 : decode cX10_condition 23 = .ok (.bipush 124, 2) := by decide +kernel
theorem dX10_condition_25 : decode cX10_condition 25 = .ok (.invokevirtual 31, 3) := by decide +kernel
theorem dX10_condition_28 : decode cX10_condition 28 = .ok (.ifCond .eq 30, 3) := by decide +kernel
theorem dX10_condition_31 : decode cX10_condition 31 = .ok (.aload_n 0, 1) := by decide +kernel
theorem dX10_condition_32 : decode cX10_condition 32 = .ok (.iload_n 1, 1) := by decide +kernel
theorem dX10_condition_33 : decode cX10_condition 33 = .ok (.iconst 0, 1) := by decide +kernel
theorem dX10_condition_34 : decode cX10_condition 34 = .ok (.invokevirtual 88, 3) := by decide +kernel
theorem dX10_condition_37 : decode cX10_condition 37 = .ok (.ifCond .ne 5, 3) := by decide +kernel
theorem dX10_condition_40 : decode cX10_condition 40 = .ok (.iconst 0, 1) := by decide +kernel
theorem dX10_condition_41 : decode cX10_condition 41 = .ok (.ireturn, 1) := by decide +kernel
theorem dX10_condition_42 : decode cX10_condition 42 = .ok (.aload_n 0, 1) := by decide +kernel
theorem dX10_condition_43 : decode cX10_condition 43 = .ok (.getfield 9, 3) := by decide +kernel
theorem dX10_condition_46 : decode cX10_condition 46 = .ok (.sipush 20124, 3) := by decide +kernel
theorem dX10_condition_49 : decode cX10_condition 49 = .ok (.invokevirtual 61, 3) := by decide +kernel
theorem dX10_condition_52 : decode cX10_condition 52 = .ok (.iinc 3 (-1), 3) := by decide +kernel
theorem dX10_condition_55 : decode cX10_condition 55 = .ok (.goto (-40), 3) := by decide +kernel
theorem dX10_condition_58 : decode cX10_condition 58 = .ok (.iconst 1, 1) := by decide +kernel
theorem dX10_condition_59 : decode cX10_condition 59 = .ok (.ireturn, 1) := by decide +kernel
theorem dX10_part_0 : decode cX10_part 0 = .ok (.aload_n 0, 1) := by decide +kernel
theorem dX10_part_1 : decode cX10_part 1 = .ok (.iload_n 1, 1) := by decide +kernel
theorem dX10_part_2 : decode cX10_part 2 = .ok (.iload_n 2, 1) := by decide +kernel
theorem dX10_part_3 : decode cX10_part 3 = .ok (.invokevirtual 93, 3) := by decide +kernel
theorem dX10_part_6 : decode cX10_part 6 = .ok (.ifCond .ne 5, 3) := by decide +kernel
theorem dX10_part_9 : decode cX10_part 9 = .ok (.iconst 0, 1) := by decide +kernel
theorem dX10_part_10 : decode cX10_part 10 = .ok (.ireturn, 1) := by decide +kernel
theorem dX10_part_11 : decode cX10_part 11 = .ok (.sipush 200, 3) := by decide +kernel
theorem dX10_part_14 : decode cX10_part 14 = .ok (.istore_n 3, 1) := by decide +kernel
theorem dX10_part_15 : decode cX10_part 15 = .ok (.iload_n 3, 1) := by decide +kernel
theorem dX10_part_16 : decode cX10_part 16 = .ok (.ifCond .le 42, 3) := by decide +kernel
theorem dX10_part_19 : decode cX10_part 19 = .ok (.aload_n 0, 1) := by decide +kernel
theorem dX10_part_20 : decode cX10_part 20 = .ok (.getfield 9, 3) := by decide +kernel
theorem dX10_part_23 : decode cX10_part 23 = .ok (.bipush 38, 2) := by decide +kernel
theorem dX10_part_25 : decode cX10_part 25 = .ok (.invokevirtual 31, 3) := by decide +kernel
theorem dX10_part_28 : decode cX10_part 28 = .ok (.ifCond .eq 30, 3) := by decide +kernel
theorem dX10_part_31 : decode cX10_part 31 = .ok (.aload_n 0, 1) := by decide +kernel
theorem dX10_part_32 : decode cX10_part 32 = .ok (.iload_n 1, 1) := by decide +kernel
theorem dX10_part_33 : decode cX10_part 33 = .ok (.iconst 0, 1) := by decide +kernel
theorem dX10_part_34 : decode cX10_part 34 = .ok (.invokevirtual 93, 3) := by decide +kernel
theorem dX10_part_37 : decode cX10_part 37 = .ok (.ifCond .ne 5, 3) := by decide +kernel
theorem dX10_part_40 : decode cX10_part 40 = .ok (.iconst 0, 1) := by decide +kernel
theorem dX10_part_41 : decode cX10_part 41 = .ok (.ireturn, 1) := by decide +kernel
theorem dX10_part_42 : decode cX10_part 42 = .ok (.aload_n 0, 1) := by decide +kernel
theorem dX10_part_43 : decode cX10_part 43 = .ok (.getfield 9, 3) := by decide +kernel
theorem dX10_part_46 : decode cX10_part 46 = .ok (.sipush 20038, 3) := by decide +kernel
theorem dX10_part_49 : decode cX10_part 49 = .ok (.invokevirtual 61, 3) := by decide +kernel
theorem dX10_part_52 : decode cX10_part 52 = .ok (.iinc 3 (-1), 3) := by decide +kernel
theorem dX10_part_55 : decode cX10_part 55 = .ok (.goto (-40), 3) := by decide +kernel
theorem dX10_part_58 : decode cX10_part 58 = .ok (.iconst 1, 1) := by decide +kernel
theorem dX10_part_59 : decode cX10_part 59 = .ok (.ireturn, 1) := by decide +kernel
theorem dX10_unit_0 : decode cX10_unit 0 = .ok (.iload_n 2, 1) := by decide +kernel
theorem dX10_unit_1 : decode cX10_unit 1 = .ok (.ifCond .eq 9, 3) := by decide +kernel
theorem dX10_unit_4 : decode cX10_unit 4 = .ok (.aload_n 0, 1) := by decide +kernel
theorem dX10_unit_5 : decode cX10_unit 5 = .ok (.iload_n 1, 1) := by decide +kernel
theorem dX10_unit_6 : decode cX10_unit 6 = .ok (.invokevirtual 96, 3) := by decide +kernel
theorem dX10_unit_9 : decode cX10_unit 9 = .ok (.ireturn, 1) := by decide +kernel
theorem dX10_unit_10 : decode cX10_unit 10 = .ok (.aload_n 0, 1) := by decide +kernel
theorem dX10_unit_11 : decode cX10_unit 11 = .ok (.getfield 9, 3) := by decide +kernel
theorem dX10_unit_14 : decode cX10_unit 14 = .ok (.invokevirtual 42, 3) := by decide +kernel
theorem dX10_unit_17 : decode cX10_unit 17 = .ok (.istore_n 3, 1) := by decide +kernel
theorem dX10_unit_18 : decode cX10_unit 18 = .ok (.iload_n 3, 1) := by decide +kernel
theorem dX10_unit_19 : decode cX10_unit 19 = .ok (.bipush 33, 2) := by decide +kernel
theorem dX10_unit_21 : decode cX10_unit 21 = .ok (.if_icmp .eq 9, 3) := by decide +kernel
theorem dX10_unit_24 : decode cX10_unit 24 = .ok (.iload_n 3, 1) := by decide +kernel
theorem dX10_unit_25 : decode cX10_unit 25 = .ok (.bipush 40, 2) := by decide +kernel
theorem dX10_unit_27 : decode cX10_unit 27 = .ok (.if_icmp .ne 28, 3) := by decide +kernel
theorem dX10_unit_30 : decode cX10_unit 30 = .ok (.iload_n 1, 1) := by decide +kernel
theorem dX10_unit_31 : decode cX10_unit 31 = .ok (.bipush 6, 2) := by decide +kernel
theorem dX10_unit_33 : decode cX10_unit 33 = .ok (.if_icmp .ge 14, 3) := by decide +kernel
theorem dX10_unit_36 : decode cX10_unit 36 = .ok (.aload_n 0, 1) := by decide +kernel
theorem dX10_unit_37 : decode cX10_unit 37 = .ok (.iload_n 3, 1) := by decide +kernel
theorem dX10_unit_38 : decode cX10_unit 38 = .ok (.iload_n 1, 1) := by decide +kernel
theorem dX10_unit_39 : decode cX10_unit 39 = .ok (.iconst 1, 1) := by decide +kernel
theorem dX10_unit_40 : decode cX10_unit 40 = .ok (.iadd, 1) := by decide +kernel
theorem dX10_unit_41 : decode cX10_unit 41 = .ok (.invokevirtual 99, 3) := by decide +kernel
theorem dX10_unit_44 : decode cX10_unit 44 = .ok (.goto 10, 3) := by decide +kernel
theorem dX10_unit_47 : decode cX10_unit 47 = .ok (.aload_n 0, 1) := by decide +kernel
theorem dX10_unit_48 : decode cX10_unit 48 = .ok (.getfield 9, 3) := by decide +kernel
theorem dX10_unit_51 : decode cX10_unit 51 = .ok (.invokevirtual 52, 3) := by decide +kernel
theorem dX10_unit_54 : decode cX10_unit 54 = .ok (.ireturn, 1) := by decide +kernel
theorem dX10_unit_55 : decode cX10_unit 55 = .ok (.aload_n 0, 1) := by decide +kernel
theorem dX10_unit_56 : decode cX10_unit 56 = .ok (.iload_n 1, 1) := by decide +kernel
theorem dX10_unit_57 : decode cX10_unit 57 = .ok (.invokevirtual 75, 3) := by decide +kernel
theorem dX10_unit_60 : decode cX10_unit 60 = .ok (.ifCond .eq 15, 3) := by decide +kernel
theorem dX10_unit_63 : decode cX10_unit 63 = .ok (.aload_n 0, 1) := by decide +kernel
theorem dX10_unit_64 : decode cX10_unit 64 = .ok (.iload_n 1, 1) := by decide +kernel
theorem dX10_unit_65 : decode cX10_unit 65 = .ok (.invokevirtual 96, 3) := by decide +kernel
theorem dX10_unit_68 : decode cX10_unit 68 = .ok (.ifCond .eq 7, 3) := by decide +kernel
theorem dX10_unit_71 : decode cX10_unit 71 = .ok (.iconst 1, 1) := by decide +kernel
theorem dX10_unit_72 : decode cX10_unit 72 = .ok (.goto 4, 3) := by decide +kernel
theorem dX10_unit_75 : decode cX10_unit 75 = .ok (.iconst 0, 1) := by decide +kernel
theorem dX10_unit_76 : decode cX10_unit 76 = .ok (.ireturn, 1) := by decide +kernel
theorem dX10_inner_0 : decode cX10_inner 0 = .ok (.aload_n 0, 1) := by decide +kernel
theorem dX10_inner_1 : decode cX10_inner 1 = .ok (.getfield 9, 3) := by decide +kernel
theorem dX10_inner_4 : decode cX10_inner 4 = .ok (.invokevirtual 55, 3) := by decide +kernel
theorem dX10_inner_7 : decode cX10_inner 7 = .ok (.iload_n 1, 1) := by decide +kernel
theorem dX10_inner_8 : decode cX10_inner 8 = .ok (.bipush 40, 2) := by decide +kernel
theorem dX10_inner_10 : decode cX10_inner 10 = .ok (.if_icmp .ne 30, 3) := by decide +kernel
theorem dX10_inner_13 : decode cX10_inner 13 = .ok (.aload_n 0, 1) := by decide +kernel
theorem dX10_inner_14 : decode cX10_inner 14 = .ok (.iload_n 2, 1) := by decide +kernel
theorem dX10_inner_15 : decode cX10_inner 15 = .ok (.iconst 0, 1) := by decide +kernel
theorem dX10_inner_16 : decode cX10_inner 16 = .ok (.invokevirtual 78, 3) := by decide +kernel
theorem dX10_inner_19 : decode cX10_inner 19 = .ok (.ifCond .eq 19, 3) := by decide +kernel
theorem dX10_inner_22 : decode cX10_inner 22 = .ok (.aload_n 0, 1) := by decide +kernel
theorem dX10_inner_23 : decode cX10_inner 23 = .ok (.getfield 9, 3) := by decide +kernel
theorem dX10_inner_26 : decode cX10_inner 26 = .ok (.bipush 41, 2) := by decide +kernel
theorem dX10_inner_28 : decode cX10_inner 28 = .ok (.invokevirtual 65, 3) := by decide +kernel
theorem dX10_inner_31 : decode cX10_inner 31 = .ok (.ifCond .eq 7, 3) := by decide +kernel
theorem dX10_inner_34 : decode cX10_inner 34 = .ok (.iconst 1, 1) := by decide +kernel
theorem dX10_inner_35 : decode cX10_inner 35 = .ok (.goto 4, 3) := by decide +kernel
theorem dX10_inner_38 : decode cX10_inner 38 = .ok (.iconst 0, 1) := by decide +kernel
theorem dX10_inner_39 : decode cX10_inner 39 = .ok (.ireturn, 1) := by decide +kernel
theorem dX10_inner_40 : decode cX10_inner 40 = .ok (.aload_n 0, 1) := by decide +kernel
theorem dX10_inner_41 : decode cX10_inner 41 = .ok (.iload_n 2, 1) := by decide +kernel
theorem dX10_inner_42 : decode cX10_inner 42 = .ok (.iconst 0, 1) := by decide +kernel
theorem dX10_inner_43 : decode cX10_inner 43 = .ok (.invokevirtual 93, 3) := by decide +kernel
theorem dX10_inner_46 : decode cX10_inner 46 = .ok (.ifCond .ne 5, 3) := by decide +kernel
theorem dX10_inner_49 : decode cX10_inner 49 = .ok (.iconst 0, 1) := by decide +kernel
theorem dX10_inner_50 : decode cX10_inner 50 = .ok (.ireturn, 1) := by decide +kernel
theorem dX10_inner_51 : decode cX10_inner 51 = .ok (.aload_n 0, 1) := by decide +kernel
theorem dX10_inner_52 : decode cX10_inner 52 = .ok (.getfield 9, 3) := by decide +kernel
theorem dX10_inner_55 : decode cX10_inner 55 = .ok (.sipush 20033, 3) := by decide +kernel
theorem dX10_inner_58 : decode cX10_inner 58 = .ok (.invokevirtual 61, 3) := by decide +kernel
theorem dX10_inner_61 : decode cX10_inner 61 = .ok (.iconst 1, 1) := by decide +kernel
theorem dX10_inner_62 : decode cX10_inner 62 = .ok (.ireturn, 1) := by decide +kernel
theorem dX10_comparison_0 : decode cX10_comparison 0 = .ok (.aload_n 0, 1) := by decide +kernel
theorem dX10_comparison_1 : decode cX10_comparison 1 = .ok (.getfield 9, 3) := by decide +kernel
theorem dX10_comparison_4 : decode cX10_comparison 4 = .ok (.invokevirtual 42, 3) := by decide +kernel
theorem dX10_comparison_7 : decode cX10_comparison 7 = .ok (.istore_n 2, 1) := by decide +kernel
theorem dX10_comparison_8 : decode cX10_comparison 8 = .ok (.iload_n 2, 1) := by decide +kernel
theorem dX10_comparison_9 : decode cX10_comparison 9 = .ok (.invokestatic 85, 3) := by decide +kernel
theorem dX10_comparison_12 : decode cX10_comparison 12 = .ok (.ifCond .ne 11, 3) := by decide +kernel
theorem dX10_comparison_15 : decode cX10_comparison 15 = .ok (.aload_n 0, 1) := by decide +kernel
theorem dX10_comparison_16 : decode cX10_comparison 16 = .ok (.getfield 9, 3) := by decide +kernel
theorem dX10_comparison_19 : decode cX10_comparison 19 = .ok (.invokevirtual 52, 3) := by decide +kernel
theorem dX10_comparison_22 : decode cX10_comparison 22 = .ok (.ireturn, 1) := by decide +kernel
theorem dX10_comparison_23 : decode cX10_comparison 23 = .ok (.aload_n 0, 1) := by decide +kernel
theorem dX10_comparison_24 : decode cX10_comparison 24 = .ok (.getfield 9, 3) := by decide +kernel
theorem dX10_comparison_27 : decode cX10_comparison 27 = .ok (.invokevirtual 55, 3) := by decide +kernel
theorem dX10_comparison_30 : decode cX10_comparison 30 = .ok (.aload_n 0, 1) := by decide +kernel
theorem dX10_comparison_31 : decode cX10_comparison 31 = .ok (.iload_n 1, 1) := by decide +kernel
theorem dX10_comparison_32 : decode cX10_comparison 32 = .ok (.invokevirtual 75, 3) := by decide +kernel
theorem dX10_comparison_35 : decode cX10_comparison 35 = .ok (.ifCond .ne 5, 3) := by decide +kernel
theorem dX10_comparison_38 : decode cX10_comparison 38 = .ok (.iconst 0, 1) := by decide +kernel
theorem dX10_comparison_39 : decode cX10_comparison 39 = .ok (.ireturn, 1) := by decide +kernel
theorem dX10_comparison_40 : decode cX10_comparison 40 = .ok (.aload_n 0, 1) := by decide +kernel
theorem dX10_comparison_41 : decode cX10_comparison 41 = .ok (.getfield 9, 3) := by decide +kernel
theorem dX10_comparison_44 : decode cX10_comparison 44 = .ok (.sipush 20000, 3) := by decide +kernel
theorem dX10_comparison_47 : decode cX10_comparison 47 = .ok (.iload_n 2, 1) := by decide +kernel
theorem dX10_comparison_48 : decode cX10_comparison 48 = .ok (.iadd, 1) := by decide +kernel
theorem dX10_comparison_49 : decode cX10_comparison 49 = .ok (.invokevirtual 61, 3) := by decide +kernel
theorem dX10_comparison_52 : decode cX10_comparison 52 = .ok (.iconst 1, 1) := by decide +kernel
theorem dX10_comparison_53 : decode cX10_comparison 53 = .ok (.ireturn, 1) := by decide +kernel
theorem dX10_isComparison_0 : decode cX10_isComparison 0 = .ok (.iload_n 0, 1) := by decide +kernel
theorem dX10_isComparison_1 : decode cX10_isComparison 1 = .ok (.bipush 61, 2) := by decide +kernel
theorem dX10_isComparison_3 : decode cX10_isComparison 3 = .ok (.if_icmp .eq 15, 3) := by decide +kernel
theorem dX10_isComparison_6 : decode cX10_isComparison 6 = .ok (.iload_n 0, 1) := by decide +kernel
theorem dX10_isComparison_7 : decode cX10_isComparison 7 = .ok (.bipush 60, 2) := by decide +kernel
theorem dX10_isComparison_9 : decode cX10_isComparison 9 = .ok (.if_icmp .eq 9, 3) := by decide +kernel
theorem dX10_isComparison_12 : decode cX10_isComparison 12 = .ok (.iload_n 0, 1) := by decide +kernel
theorem dX10_isComparison_13 : decode cX10_isComparison 13 = .ok (.bipush 62, 2) := by decide +kernel
theorem dX10_isComparison_15 : decode cX10_isComparison 15 = .ok (.if_icmp .ne 7, 3) := by decide +kernel
theorem dX10_isComparison_18 : decode cX10_isComparison 18 = .ok (.iconst 1, 1) := by decide +kernel
theorem dX10_isComparison_19 : decode cX10_isComparison 19 = .ok (.goto 4, 3) := by decide +kernel
theorem dX10_isComparison_22 : decode cX10_isComparison 22 = .ok (.iconst 0, 1) := by decide +kernel
theorem dX10_isComparison_23 : decode cX10_isComparison 23 = .ok (.ireturn, 1) := by decide +kernel
theorem dX10_total_0 : decode cX10_total 0 = .ok (.aload_n 0, 1) := by decide +kernel
theorem dX10_total_1 : decode cX10_total 1 = .ok (.iload_n 1, 1) := by decide +kernel
theorem dX10_total_2 : decode cX10_total 2 = .ok (.invokevirtual 103, 3) := by decide +kernel
theorem dX10_total_5 : decode cX10_total 5 = .ok (.ifCond .ne 5, 3) := by decide +kernel
theorem dX10_total_8 : decode cX10_total 8 = .ok (.iconst 0, 1) := by decide +kernel
theorem dX10_total_9 : decode cX10_total 9 = .ok (.ireturn, 1) := by decide +kernel
theorem dX10_total_10 : decode cX10_total 10 = .ok (.sipush 200, 3) := by decide +kernel
theorem dX10_total_13 : decode cX10_total 13 = .ok (.istore_n 2, 1) := by decide +kernel
theorem dX10_total_14 : decode cX10_total 14 = .ok (.iload_n 2, 1) := by decide +kernel
theorem dX10_total_15 : decode cX10_total 15 = .ok (.ifCond .le 70, 3) := by decide +kernel
theorem dX10_total_18 : decode cX10_total 18 = .ok (.aload_n 0, 1) := by decide +kernel
theorem dX10_total_19 : decode cX10_total 19 = .ok (.getfield 9, 3) := by decide +kernel
theorem dX10_total_22 : decode cX10_total 22 = .ok (.invokevirtual 42, 3) := by decide +kernel
theorem dX10_total_25 : decode cX10_total 25 = .ok (.bipush 43, 2) := by decide +kernel
theorem dX10_total_27 : decode cX10_total 27 = .ok (.if_icmp .eq 15, 3) := by decide +kernel
theorem dX10_total_30 : decode cX10_total 30 = .ok (.aload_n 0, 1) := by decide +kernel
theorem dX10_total_31 : decode cX10_total 31 = .ok (.getfield 9, 3) := by decide +kernel
theorem dX10_total_34 : decode cX10_total 34 = .ok (.invokevirtual 42, 3) := by decide +kernel
theorem dX10_total_37 : decode cX10_total 37 = .ok (.bipush 45, 2) := by decide +kernel
theorem dX10_total_39 : decode cX10_total 39 = .ok (.if_icmp .ne 46, 3) := by decide +kernel
theorem dX10_total_42 : decode cX10_total 42 = .ok (.aload_n 0, 1) := by decide +kernel
theorem dX10_total_43 : decode cX10_total 43 = .ok (.getfield 9, 3) := by decide +kernel
theorem dX10_total_46 : decode cX10_total 46 = .ok (.invokevirtual 42, 3) := by decide +kernel
theorem dX10_total_49 : decode cX10_total 49 = .ok (.istore_n 3, 1) := by decide +kernel
theorem dX10_total_50 : decode cX10_total 50 = .ok (.aload_n 0, 1) := by decide +kernel
theorem dX10_total_51 : decode cX10_total 51 = .ok (.getfield 9, 3) := by decide +kernel
theorem dX10_total_54 : decode cX10_total 54 = .ok (.invokevirtual 55, 3) := by decide +kernel
theorem dX10_total_57 : decode cX10_total 57 = .ok (.aload_n 0, 1) := by decide +kernel
theorem dX10_total_58 : decode cX10_total 58 = .ok (.iload_n 1, 1) := by decide +kernel
theorem dX10_total_59 : decode cX10_total 59 = .ok (.invokevirtual 103, 3) := by decide +kernel
theorem dX10_total_62 : decode cX10_total 62 = .ok (.ifCond .ne 5, 3) := by decide +kernel
theorem dX10_total_65 : decode cX10_total 65 = .ok (.iconst 0, 1) := by decide +kernel
theorem dX10_total_66 : decode cX10_total 66 = .ok (.ireturn, 1) := by decide +kernel
theorem dX10_total_67 : decode cX10_total 67 = .ok (.aload_n 0, 1) := by decide +kernel
theorem dX10_total_68 : decode cX10_total 68 = .ok (.getfield 9, 3) := by decide +kernel
theorem dX10_total_71 : decode cX10_total 71 = .ok (.sipush 20000, 3) := by decide +kernel
theorem dX10_total_74 : decode cX10_total 74 = .ok (.iload_n 3, 1) := by decide +kernel
theorem dX10_total_75 : decode cX10_total 75 = .ok (.iadd, 1) := by decide +kernel
theorem dX10_total_76 : decode cX10_total 76 = .ok (.invokevirtual 61, 3) := by decide +kernel
theorem dX10_total_79 : decode cX10_total 79 = .ok (.iinc 2 (-1), 3) := by decide +kernel
theorem dX10_total_82 : decode cX10_total 82 = .ok (.goto (-68), 3) := by decide +kernel
theorem dX10_total_85 : decode cX10_total 85 = .ok (.iconst 1, 1) := by decide +kernel
theorem dX10_total_86 : decode cX10_total 86 = .ok (.ireturn, 1) := by decide +kernel
theorem dX10_term_0 : decode cX10_term 0 = .ok (.aload_n 0, 1) := by decide +kernel
theorem dX10_term_1 : decode cX10_term 1 = .ok (.iload_n 1, 1) := by decide +kernel
theorem dX10_term_2 : decode cX10_term 2 = .ok (.invokevirtual 106, 3) := by decide +kernel
theorem dX10_term_5 : decode cX10_term 5 = .ok (.ifCond .ne 5, 3) := by decide +kernel
theorem dX10_term_8 : decode cX10_term 8 = .ok (.iconst 0, 1) := by decide +kernel
theorem dX10_term_9 : decode cX10_term 9 = .ok (.ireturn, 1) := by decide +kernel
theorem dX10_term_10 : decode cX10_term 10 = .ok (.sipush 200, 3) := by decide +kernel
theorem dX10_term_13 : decode cX10_term 13 = .ok (.istore_n 2, 1) := by decide +kernel
theorem dX10_term_14 : decode cX10_term 14 = .ok (.iload_n 2, 1) := by decide +kernel
theorem dX10_term_15 : decode cX10_term 15 = .ok (.ifCond .le 70, 3) := by decide +kernel
theorem dX10_term_18 : decode cX10_term 18 = .ok (.aload_n 0, 1) := by decide +kernel
theorem dX10_term_19 : decode cX10_term 19 = .ok (.getfield 9, 3) := by decide +kernel
theorem dX10_term_22 : decode cX10_term 22 = .ok (.invokevirtual 42, 3) := by decide +kernel
theorem dX10_term_25 : decode cX10_term 25 = .ok (.bipush 42, 2) := by decide +kernel
theorem dX10_term_27 : decode cX10_term 27 = .ok (.if_icmp .eq 15, 3) := by decide +kernel
theorem dX10_term_30 : decode cX10_term 30 = .ok (.aload_n 0, 1) := by decide +kernel
theorem dX10_term_31 : decode cX10_term 31 = .ok (.getfield 9, 3) := by decide +kernel
theorem dX10_term_34 : decode cX10_term 34 = .ok (.invokevirtual 42, 3) := by decide +kernel
theorem dX10_term_37 : decode cX10_term 37 = .ok (.bipush 47, 2) := by decide +kernel
theorem dX10_term_39 : decode cX10_term 39 = .ok (.if_icmp .ne 46, 3) := by decide +kernel
theorem dX10_term_42 : decode cX10_term 42 = .ok (.aload_n 0, 1) := by decide +kernel
theorem dX10_term_43 : decode cX10_term 43 = .ok (.getfield 9, 3) := by decide +kernel
theorem dX10_term_46 : decode cX10_term 46 = .ok (.invokevirtual 42, 3) := by decide +kernel
theorem dX10_term_49 : decode cX10_term 49 = .ok (.istore_n 3, 1) := by decide +kernel
theorem dX10_term_50 : decode cX10_term 50 = .ok (.aload_n 0, 1) := by decide +kernel
theorem dX10_term_51 : decode cX10_term 51 = .ok (.getfield 9, 3) := by decide +kernel
theorem dX10_term_54 : decode cX10_term 54 = .ok (.invokevirtual 55, 3) := by decide +kernel
theorem dX10_term_57 : decode cX10_term 57 = .ok (.aload_n 0, 1) := by decide +kernel
theorem dX10_term_58 : decode cX10_term 58 = .ok (.iload_n 1, 1) := by decide +kernel
theorem dX10_term_59 : decode cX10_term 59 = .ok (.invokevirtual 106, 3) := by decide +kernel
theorem dX10_term_62 : decode cX10_term 62 = .ok (.ifCond .ne 5, 3) := by decide +kernel
theorem dX10_term_65 : decode cX10_term 65 = .ok (.iconst 0, 1) := by decide +kernel
theorem dX10_term_66 : decode cX10_term 66 = .ok (.ireturn, 1) := by decide +kernel
theorem dX10_term_67 : decode cX10_term 67 = .ok (.aload_n 0, 1) := by decide +kernel
theorem dX10_term_68 : decode cX10_term 68 = .ok (.getfield 9, 3) := by decide +kernel
theorem dX10_term_71 : decode cX10_term 71 = .ok (.sipush 20000, 3) := by decide +kernel
theorem dX10_term_74 : decode cX10_term 74 = .ok (.iload_n 3, 1) := by decide +kernel
theorem dX10_term_75 : decode cX10_term 75 = .ok (.iadd, 1) := by decide +kernel
theorem dX10_term_76 : decode cX10_term 76 = .ok (.invokevirtual 61, 3) := by decide +kernel
theorem dX10_term_79 : decode cX10_term 79 = .ok (.iinc 2 (-1), 3) := by decide +kernel
theorem dX10_term_82 : decode cX10_term 82 = .ok (.goto (-68), 3) := by decide +kernel
theorem dX10_term_85 : decode cX10_term 85 = .ok (.iconst 1, 1) := by decide +kernel
theorem dX10_term_86 : decode cX10_term 86 = .ok (.ireturn, 1) := by decide +kernel
theorem dX10_atom_0 : decode cX10_atom 0 = .ok (.aload_n 0, 1) := by decide +kernel
theorem dX10_atom_1 : decode cX10_atom 1 = .ok (.getfield 9, 3) := by decide +kernel
theorem dX10_atom_4 : decode cX10_atom 4 = .ok (.invokevirtual 42, 3) := by decide +kernel
theorem dX10_atom_7 : decode cX10_atom 7 = .ok (.istore_n 2, 1) := by decide +kernel
theorem dX10_atom_8 : decode cX10_atom 8 = .ok (.iload_n 2, 1) := by decide +kernel
theorem dX10_atom_9 : decode cX10_atom 9 = .ok (.bipush 91, 2) := by decide +kernel
theorem dX10_atom_11 : decode cX10_atom 11 = .ok (.if_icmp .ne 52, 3) := by decide +kernel
theorem dX10_atom_14 : decode cX10_atom 14 = .ok (.iload_n 1, 1) := by decide +kernel
theorem dX10_atom_15 : decode cX10_atom 15 = .ok (.bipush 6, 2) := by decide +kernel
theorem dX10_atom_17 : decode cX10_atom 17 = .ok (.if_icmp .lt 11, 3) := by decide +kernel
theorem dX10_atom_20 : decode cX10_atom 20 = .ok (.aload_n 0, 1) := by decide +kernel
theorem dX10_atom_21 : decode cX10_atom 21 = .ok (.getfield 9, 3) := by decide +kernel
theorem dX10_atom_24 : decode cX10_atom 24 = .ok (.invokevirtual 52, 3) := by decide +kernel
theorem dX10_atom_27 : decode cX10_atom 27 = .ok (.ireturn, 1) := by decide +kernel
theorem dX10_atom_28 : decode cX10_atom 28 = .ok (.aload_n 0, 1) := by decide +kernel
theorem dX10_atom_29 : decode cX10_atom 29 = .ok (.getfield 9, 3) := by decide +kernel
theorem dX10_atom_32 : decode cX10_atom 32 = .ok (.invokevirtual 55, 3) := by decide +kernel
theorem dX10_atom_35 : decode cX10_atom 35 = .ok (.aload_n 0, 1) := by decide +kernel
theorem dX10_atom_36 : decode cX10_atom 36 = .ok (.iload_n 1, 1) := by decide +kernel
theorem dX10_atom_37 : decode cX10_atom 37 = .ok (.iconst 1, 1) := by decide +kernel
theorem dX10_atom_38 : decode cX10_atom 38 = .ok (.iadd, 1) := by decide +kernel
theorem dX10_atom_39 : decode cX10_atom 39 = .ok (.invokevirtual 75, 3) := by decide +kernel
theorem dX10_atom_42 : decode cX10_atom 42 = .ok (.ifCond .eq 19, 3) := by decide +kernel
theorem dX10_atom_45 : decode cX10_atom 45 = .ok (.aload_n 0, 1) := by decide +kernel
theorem dX10_atom_46 : decode cX10_atom 46 = .ok (.getfield 9, 3) := by decide +kernel
theorem dX10_atom_49 : decode cX10_atom 49 = .ok (.bipush 93, 2) := by decide +kernel
theorem dX10_atom_51 : decode cX10_atom 51 = .ok (.invokevirtual 65, 3) := by decide +kernel
theorem dX10_atom_54 : decode cX10_atom 54 = .ok (.ifCond .eq 7, 3) := by decide +kernel
theorem dX10_atom_57 : decode cX10_atom 57 = .ok (.iconst 1, 1) := by decide +kernel
theorem dX10_atom_58 : decode cX10_atom 58 = .ok (.goto 4, 3) := by decide +kernel
theorem dX10_atom_61 : decode cX10_atom 61 = .ok (.iconst 0, 1) := by decide +kernel
theorem dX10_atom_62 : decode cX10_atom 62 = .ok (.ireturn, 1) := by decide +kernel
theorem dX10_atom_63 : decode cX10_atom 63 = .ok (.iload_n 2, 1) := by decide +kernel
theorem dX10_atom_64 : decode cX10_atom 64 = .ok (.invokestatic 109, 3) := by decide +kernel
theorem dX10_atom_67 : decode cX10_atom 67 = .ok (.ifCond .eq 8, 3) := by decide +kernel
theorem dX10_atom_70 : decode cX10_atom 70 = .ok (.aload_n 0, 1) := by decide +kernel
theorem dX10_atom_71 : decode cX10_atom 71 = .ok (.invokevirtual 112, 3) := by decide +kernel
theorem dX10_atom_74 : decode cX10_atom 74 = .ok (.ireturn, 1) := by decide +kernel
theorem dX10_atom_75 : decode cX10_atom 75 = .ok (.aload_n 0, 1) := by decide +kernel
theorem dX10_atom_76 : decode cX10_atom 76 = .ok (.getfield 19, 3) := by decide +kernel
theorem dX10_atom_79 : decode cX10_atom 79 = .ok (.iload_n 2, 1) := by decide +kernel
theorem dX10_atom_80 : decode cX10_atom 80 = .ok (.i2c, 1) := by decide +kernel
theorem dX10_atom_81 : decode cX10_atom 81 = .ok (.invokevirtual 46, 3) := by decide +kernel
theorem dX10_atom_84 : decode cX10_atom 84 = .ok (.ifCond .ge 11, 3) := by decide +kernel
theorem dX10_atom_87 : decode cX10_atom 87 = .ok (.aload_n 0, 1) := by decide +kernel
theorem dX10_atom_88 : decode cX10_atom 88 = .ok (.getfield 9, 3) := by decide +kernel
theorem dX10_atom_91 : decode cX10_atom 91 = .ok (.invokevirtual 52, 3) := by decide +kernel
theorem dX10_atom_94 : decode cX10_atom 94 = .ok (.ireturn, 1) := by decide +kernel
theorem dX10_atom_95 : decode cX10_atom 95 = .ok (.aload_n 0, 1) := by decide +kernel
theorem dX10_atom_96 : decode cX10_atom 96 = .ok (.getfield 9, 3) := by decide +kernel
theorem dX10_atom_99 : decode cX10_atom 99 = .ok (.invokevirtual 55, 3) := by decide +kernel
theorem dX10_atom_102 : decode cX10_atom 102 = .ok (.aload_n 0, 1) := by decide +kernel
theorem dX10_atom_103 : decode cX10_atom 103 = .ok (.getfield 9, 3) := by decide +kernel
theorem dX10_atom_106 : decode cX10_atom 106 = .ok (.sipush 10000, 3) := by decide +kernel
theorem dX10_atom_109 : decode cX10_atom 109 = .ok (.ldc 115, 2) := by decide +kernel
theorem dX10_atom_111 : decode cX10_atom 111 = .ok (.iload_n 2, 1) := by decide +kernel
theorem dX10_atom_112 : decode cX10_atom 112 = .ok (.i2c, 1) := by decide +kernel
theorem dX10_atom_113 : decode cX10_atom 113 = .ok (.invokevirtual 46, 3) := by decide +kernel
theorem dX10_atom_116 : decode cX10_atom 116 = .ok (.iadd, 1) := by decide +kernel
theorem dX10_atom_117 : decode cX10_atom 117 = .ok (.invokevirtual 61, 3) := by decide +kernel
theorem dX10_atom_120 : decode cX10_atom 120 = .ok (.iconst 1, 1) := by decide +kernel
theorem dX10_atom_121 : decode cX10_atom 121 = .ok (.ireturn, 1) := by decide +kernel
theorem dX10_number_0 : decode cX10_number 0 = .ok (.iconst 0, 1) := by decide +kernel
theorem dX10_number_1 : decode cX10_number 1 = .ok (.istore_n 1, 1) := by decide +kernel
theorem dX10_number_2 : decode cX10_number 2 = .ok (.iconst 0, 1) := by decide +kernel
theorem dX10_number_3 : decode cX10_number 3 = .ok (.istore_n 2, 1) := by decide +kernel
theorem dX10_number_4 : decode cX10_number 4 = .ok (.iload_n 2, 1) := by decide +kernel
theorem dX10_number_5 : decode cX10_number 5 = .ok (.iconst 4, 1) := by decide +kernel
theorem dX10_number_6 : decode cX10_number 6 = .ok (.if_icmp .ge 45, 3) := by decide +kernel
theorem dX10_number_9 : decode cX10_number 9 = .ok (.aload_n 0, 1) := by decide +kernel
theorem dX10_number_10 : decode cX10_number 10 = .ok (.getfield 9, 3) := by decide +kernel
theorem dX10_number_13 : decode cX10_number 13 = .ok (.invokevirtual 117, 3) := by decide +kernel
theorem dX10_number_16 : decode cX10_number 16 = .ok (.invokestatic 109, 3) := by decide +kernel
theorem dX10_number_19 : decode cX10_number 19 = .ok (.ifCond .eq 32, 3) := by decide +kernel
theorem dX10_number_22 : decode cX10_number 22 = .ok (.iload_n 1, 1) := by decide +kernel
theorem dX10_number_23 : decode cX10_number 23 = .ok (.bipush 10, 2) := by decide +kernel
theorem dX10_number_25 : decode cX10_number 25 = .ok (.imul, 1) := by decide +kernel
theorem dX10_number_26 : decode cX10_number 26 = .ok (.aload_n 0, 1) := by decide +kernel
theorem dX10_number_27 : decode cX10_number 27 = .ok (.getfield 9, 3) := by decide +kernel
theorem dX10_number_30 : decode cX10_number 30 = .ok (.invokevirtual 117, 3) := by decide +kernel
theorem dX10_number_33 : decode cX10_number 33 = .ok (.iadd, 1) := by decide +kernel
theorem dX10_number_34 : decode cX10_number 34 = .ok (.bipush 48, 2) := by decide +kernel
theorem dX10_number_36 : decode cX10_number 36 = .ok (.isub, 1) := by decide +kernel
theorem dX10_number_37 : decode cX10_number 37 = .ok (.istore_n 1, 1) := by decide +kernel
theorem dX10_number_38 : decode cX10_number 38 = .ok (.aload_n 0, 1) := by decide +kernel
theorem dX10_number_39 : decode cX10_number 39 = .ok (.getfield 9, 3) := by decide +kernel
theorem dX10_number_42 : decode cX10_number 42 = .ok (.invokevirtual 55, 3) := by decide +kernel
theorem dX10_number_45 : decode cX10_number 45 = .ok (.iinc 2 1, 3) := by decide +kernel
theorem dX10_number_48 : decode cX10_number 48 = .ok (.goto (-44), 3) := by decide +kernel
theorem dX10_number_51 : decode cX10_number 51 = .ok (.aload_n 0, 1) := by decide +kernel
theorem dX10_number_52 : decode cX10_number 52 = .ok (.getfield 9, 3) := by decide +kernel
theorem dX10_number_55 : decode cX10_number 55 = .ok (.iload_n 1, 1) := by decide +kernel
theorem dX10_number_56 : decode cX10_number 56 = .ok (.invokevirtual 61, 3) := by decide +kernel
theorem dX10_number_59 : decode cX10_number 59 = .ok (.iconst 1, 1) := by decide +kernel
theorem dX10_number_60 : decode cX10_number 60 = .ok (.ireturn, 1) := by decide +kernel
theorem dX10_isDigit_0 : decode cX10_isDigit 0 = .ok (.iload_n 0, 1) := by decide +kernel
theorem dX10_isDigit_1 : decode cX10_isDigit 1 = .ok (.bipush 48, 2) := by decide +kernel
theorem dX10_isDigit_3 : decode cX10_isDigit 3 = .ok (.if_icmp .lt 13, 3) := by decide +kernel
theorem dX10_isDigit_6 : decode cX10_isDigit 6 = .ok (.iload_n 0, 1) := by decide +kernel
theorem dX10_isDigit_7 : decode cX10_isDigit 7 = .ok (.bipush 57, 2) := by decide +kernel
theorem dX10_isDigit_9 : decode cX10_isDigit 9 = .ok (.if_icmp .gt 7, 3) := by decide +kernel
theorem dX10_isDigit_12 : decode cX10_isDigit 12 = .ok (.iconst 1, 1) := by decide +kernel
theorem dX10_isDigit_13 : decode cX10_isDigit 13 = .ok (.goto 4, 3) := by decide +kernel
theorem dX10_isDigit_16 : decode cX10_isDigit 16 = .ok (.iconst 0, 1) := by decide +kernel
theorem dX10_isDigit_17 : decode cX10_isDigit 17 = .ok (.ireturn, 1) := by decide +kernel
theorem dX11_init_0 : decode cX11_init 0 = .ok (.aload_n 0, 1) := by decide +kernel
theorem dX11_init_1 : decode cX11_init 1 = .ok (.invokespecial 1, 3) := by decide +kernel
theorem dX11_init_4 : decode cX11_init 4 = .ok (.aload_n 0, 1) := by decide +kernel
theorem dX11_init_5 : decode cX11_init 5 = .ok (.new 7, 3) := by decide +kernel
theorem dX11_init_8 : decode cX11_init 8 = .ok (.dup, 1) := by decide +kernel
theorem dX11_init_9 : decode cX11_init 9 = .ok (.invokespecial 9, 3) := by decide +kernel
theorem dX11_init_12 : decode cX11_init 12 = .ok (.putfield 10, 3) := by decide +kernel
theorem dX11_init_15 : decode cX11_init 15 = .ok (.aload_n 0, 1) := by decide +kernel
theorem dX11_init_16 : decode cX11_init 16 = .ok (.new 16, 3) := by decide +kernel
theorem dX11_init_19 : decode cX11_init 19 = .ok (.dup, 1) := by decide +kernel
theorem dX11_init_20 : decode cX11_init 20 = .ok (.aload_n 0, 1) := by decide +kernel
theorem dX11_init_21 : decode cX11_init 21 = .ok (.getfield 10, 3) := by decide +kernel
theorem dX11_init_24 : decode cX11_init 24 = .ok (.invokespecial 18, 3) := by decide +kernel
theorem dX11_init_27 : decode cX11_init 27 = .ok (.putfield 21, 3) := by decide +kernel
theorem dX11_init_30 : decode cX11_init 30 = .ok (.aload_n 0, 1) := by decide +kernel
theorem dX11_init_31 : decode cX11_init 31 = .ok (.new 25, 3) := by decide +kernel
theorem dX11_init_34 : decode cX11_init 34 = .ok (.dup, 1) := by decide +kernel
theorem dX11_init_35 : decode cX11_init 35 = .ok (.aload_n 0, 1) := by decide +kernel
theorem dX11_init_36 : decode cX11_init 36 = .ok (.getfield 10, 3) := by decide +kernel
theorem dX11_init_39 : decode cX11_init 39 = .ok (.ldc 27, 2) := by decide +kernel
theorem dX11_init_41 : decode cX11_init 41 = .ok (.ldc 29, 2) := by decide +kernel
theorem dX11_init_43 : decode cX11_init 43 = .ok (.invokespecial 31, 3) := by decide +kernel
theorem dX11_init_46 : decode cX11_init 46 = .ok (.putfield 34, 3) := by decide +kernel
theorem dX11_init_49 : decode cX11_init 49 = .ok (.aload_n 0, 1) := by decide +kernel
theorem dX11_init_50 : decode cX11_init 50 = .ok (.new 25, 3) := by decide +kernel
theorem dX11_init_53 : decode cX11_init 53 = .ok (.dup, 1) := by decide +kernel
theorem dX11_init_54 : decode cX11_init 54 = .ok (.aload_n 0, 1) := by decide +kernel
theorem dX11_init_55 : decode cX11_init 55 = .ok (.getfield 10, 3) := by decide +kernel
theorem dX11_init_58 : decode cX11_init 58 = .ok (.ldc 38, 2) := by decide +kernel
theorem dX11_init_60 : decode cX11_init 60 = .ok (.ldc 40, 2) := by decide +kernel
theorem dX11_init_62 : decode cX11_init 62 = .ok (.invokespecial 31, 3) := by decide +kernel
theorem dX11_init_65 : decode cX11_init 65 = .ok (.putfield 42, 3) := by decide +kernel
theorem dX11_init_68 : decode cX11_init 68 = .ok (.aload_n 0, 1) := by decide +kernel
theorem dX11_init_69 : decode cX11_init 69 = .ok (.new 45, 3) := by decide +kernel
theorem dX11_init_72 : decode cX11_init 72 = .ok (.dup, 1) := by decide +kernel
theorem dX11_init_73 : decode cX11_init 73 = .ok (.invokespecial 47, 3) := by decide +kernel
theorem dX11_init_76 : decode cX11_init 76 = .ok (.putfield 48, 3) := by decide +kernel
theorem dX11_init_79 : decode cX11_init 79 = .ok (.aload_n 0, 1) := by decide +kernel
theorem dX11_init_80 : decode cX11_init 80 = .ok (.new 52, 3) := by decide +kernel
theorem dX11_init_83 : decode cX11_init 83 = .ok (.dup, 1) := by decide +kernel
theorem dX11_init_84 : decode cX11_init 84 = .ok (.aload_n 0, 1) := by decide +kernel
theorem dX11_init_85 : decode cX11_init 85 = .ok (.getfield 48, 3) := by decide +kernel
theorem dX11_init_88 : decode cX11_init 88 = .ok (.invokespecial 54, 3) := by decide +kernel
theorem dX11_init_91 : decode cX11_init 91 = .ok (.putfield 57, 3) := by decide +kernel
theorem dX11_init_94 : decode cX11_init 94 = .ok (.aload_n 0, 1) := by decide +kernel
theorem dX11_init_95 : decode cX11_init 95 = .ok (.new 61, 3) := by decide +kernel
theorem dX11_init_98 : decode cX11_init 98 = .ok (.dup, 1) := by decide +kernel
theorem dX11_init_99 : decode cX11_init 99 = .ok (.aload_n 0, 1) := by decide +kernel
theorem dX11_init_100 : decode cX11_init 100 = .ok (.getfield 48, 3) := by decide +kernel
theorem dX11_init_103 : decode cX11_init 103 = .ok (.aload_n 0, 1) := by decide +kernel
theorem dX11_init_104 : decode cX11_init 104 = .ok (.getfield 57, 3) := by decide +kernel
theorem dX11_init_107 : decode cX11_init 107 = .ok (.invokespecial 63, 3) := by decide +kernel
theorem dX11_init_110 : decode cX11_init 110 = .ok (.putfield 66, 3) := by decide +kernel
theorem dX11_init_113 : decode cX11_init 113 = .ok (.aload_n 0, 1) := by decide +kernel
theorem dX11_init_114 : decode cX11_init 114 = .ok (.new 61, 3) := by decide +kernel
theorem dX11_init_117 : decode cX11_init 117 = .ok (.dup, 1) := by decide +kernel
theorem dX11_init_118 : decode cX11_init 118 = .ok (.aload_n 0, 1) := by decide +kernel
theorem dX11_init_119 : decode cX11_init 119 = .ok (.getfield 48, 3) := by decide +kernel
theorem dX11_init_122 : decode cX11_init 122 = .ok (.aload_n 0, 1) := by decide +kernel
theorem dX11_init_123 : decode cX11_init 123 = .ok (.getfield 57, 3) := by decide +kernel
theorem dX11_init_126 : decode cX11_init 126 = .ok (.invokespecial 63, 3) := by decide +kernel
theorem dX11_init_129 : decode cX11_init 129 = .ok (.putfield 70, 3) := by decide +kernel
theorem dX11_init_132 : decode cX11_init 132 = .ok (.aload_n 0, 1) := by decide +kernel
theorem dX11_init_133 : decode cX11_init 133 = .ok (.new 73, 3) := by decide +kernel
theorem dX11_init_136 : decode cX11_init 136 = .ok (.dup, 1) := by decide +kernel
theorem dX11_init_137 : decode cX11_init 137 = .ok (.invokespecial 75, 3) := by decide +kernel
theorem dX11_init_140 : decode cX11_init 140 = .ok (.putfield 76, 3) := by decide +kernel
theorem dX11_init_143 : decode cX11_init 143 = .ok (.aload_n 0, 1) := by decide +kernel
theorem dX11_init_144 : decode cX11_init 144 = .ok (.new 73, 3) := by decide +kernel
theorem dX11_init_147 : decode cX11_init 147 = .ok (.dup, 1) := by decide +kernel
theorem dX11_init_148 : decode cX11_init 148 = .ok (.invokespecial 75, 3) := by decide +kernel
theorem dX11_init_151 : decode cX11_init 151 = .ok (.putfield 80, 3) := by decide +kernel
theorem dX11_init_154 : decode cX11_init 154 = .ok (.aload_n 0, 1) := by decide +kernel
theorem dX11_init_155 : decode cX11_init 155 = .ok (.new 73, 3) := by decide +kernel
theorem dX11_init_158 : decode cX11_init 158 = .ok (.dup, 1) := by decide +kernel
theorem dX11_init_159 : decode cX11_init 159 = .ok (.invokespecial 75, 3) := by decide +kernel
theorem dX11_init_162 : decode cX11_init 162 = .ok (.putfield 83, 3) := by decide +kernel
theorem dX11_init_165 : decode cX11_init 165 = .ok (.aload_n 0, 1) := by decide +kernel
theorem dX11_init_166 : decode cX11_init 166 = .ok (.new 73, 3) := by decide +kernel
theorem dX11_init_169 : decode cX11_init 169 = .ok (.dup, 1) := by decide +kernel
theorem dX11_init_170 : decode cX11_init 170 = .ok (.invokespecial 75, 3) := by decide +kernel
theorem dX11_init_173 : decode cX11_init 173 = .ok (.putfield 86, 3) := by decide +kernel
theorem dX11_init_176 : decode cX11_init 176 = .ok (.aload_n 0, 1) := by decide +kernel
theorem dX11_init_177 : decode cX11_init 177 = .ok (.new 73, 3) := by decide +kernel
theorem dX11_init_180 : decode cX11_init 180 = .ok (.dup, 1) := by decide +kernel
theorem dX11_init_181 : decode cX11_init 181 = .ok (.invokespecial 75, 3) := by decide +kernel
theorem dX11_init_184 : decode cX11_init 184 = .ok (.putfield 89, 3) := by decide +kernel
theorem dX11_init_187 : decode cX11_init 187 = .ok (.aload_n 0, 1) := by decide +kernel
theorem dX11_init_188 : decode cX11_init 188 = .ok (.bipush 6, 2) := by decide +kernel
theorem dX11_init_190 : decode cX11_init 190 = .ok (.newarray .int, 2) := by decide +kernel
theorem dX11_init_192 : decode cX11_init 192 = .ok (.putfield 92, 3) := by decide +kernel
theorem dX11_init_195 : decode cX11_init 195 = .ok (.aload_n 0, 1) := by decide +kernel
theorem dX11_init_196 : decode cX11_init 196 = .ok (.bipush 6, 2) := by decide +kernel
theorem dX11_init_198 : decode cX11_init 198 = .ok (.newarray .int, 2) := by decide +kernel
theorem dX11_init_200 : decode cX11_init 200 = .ok (.putfield 98, 3) := by decide +kernel
theorem dX11_init_203 : decode cX11_init 203 = .ok (.aload_n 0, 1) := by decide +kernel
theorem dX11_init_204 : decode cX11_init 204 = .ok (.iconst 0, 1) := by decide +kernel
theorem dX11_init_205 : decode cX11_init 205 = .ok (.putfield 101, 3) := by decide +kernel
theorem dX11_init_208 : decode cX11_init 208 = .ok (.return_, 1) := by decide +kernel
theorem dX11_feed_0 : decode cX11_feed 0 = .ok (.iload_n 1, 1) := by decide +kernel
theorem dX11_feed_1 : decode cX11_feed 1 = .ok (.invokestatic 105, 3) := by decide +kernel
theorem dX11_feed_4 : decode cX11_feed 4 = .ok (.iload_n 2, 1) := by decide +kernel
theorem dX11_feed_5 : decode cX11_feed 5 = .ok (.invokestatic 105, 3) := by decide +kernel
theorem dX11_feed_8 : decode cX11_feed 8 = .ok (.iadd, 1) := by decide +kernel
theorem dX11_feed_9 : decode cX11_feed 9 = .ok (.iload_n 3, 1) := by decide +kernel
theorem dX11_feed_10 : decode cX11_feed 10 = .ok (.invokestatic 105, 3) := by decide +kernel
theorem dX11_feed_13 : decode cX11_feed 13 = .ok (.iadd, 1) := by decide +kernel
theorem dX11_feed_14 : decode cX11_feed 14 = .ok (.iload 4, 2) := by decide +kernel
theorem dX11_feed_16 : decode cX11_feed 16 = .ok (.invokestatic 105, 3) := by decide +kernel
theorem dX11_feed_19 : decode cX11_feed 19 = .ok (.iadd, 1) := by decide +kernel
theorem dX11_feed_20 : decode cX11_feed 20 = .ok (.iload 5, 2) := by decide +kernel
theorem dX11_feed_22 : decode cX11_feed 22 = .ok (.invokestatic 105, 3) := by decide +kernel
theorem dX11_feed_25 : decode cX11_feed 25 = .ok (.iadd, 1) := by decide +kernel
theorem dX11_feed_26 : decode cX11_feed 26 = .ok (.istore 6, 2) := by decide +kernel
theorem dX11_feed_28 : decode cX11_feed 28 = .ok (.aload_n 0, 1) := by decide +kernel
theorem dX11_feed_29 : decode cX11_feed 29 = .ok (.getfield 10, 3) := by decide +kernel
theorem dX11_feed_32 : decode cX11_feed 32 = .ok (.getfield 109, 3) := by decide +kernel
theorem dX11_feed_35 : decode cX11_feed 35 = .ok (.iload 6, 2) := by decide +kernel
theorem dX11_feed_37 : decode cX11_feed 37 = .ok (.iadd, 1) := by decide +kernel
theorem dX11_feed_38 : decode cX11_feed 38 = .ok (.sipush 200, 3) := by decide +kernel
theorem dX11_feed_41 : decode cX11_feed 41 = .ok (.if_icmp .le 5, 3) := by decide +kernel
theorem dX11_feed_44 : decode cX11_feed 44 = .ok (.iconst (-1), 1) := by decide +kernel
theorem dX11_feed_45 : decode cX11_feed 45 = .ok (.ireturn, 1) := by decide +kernel
theorem dX11_feed_46 : decode cX11_feed 46 = .ok (.aload_n 0, 1) := by decide +kernel
theorem dX11_feed_47 : decode cX11_feed 47 = .ok (.getfield 10, 3) := by decide +kernel
theorem dX11_feed_50 : decode cX11_feed 50 = .ok (.iload_n 1, 1) := by decide +kernel
theorem dX11_feed_51 : decode cX11_feed 51 = .ok (.invokevirtual 112, 3) := by decide +kernel
theorem dX11_feed_54 : decode cX11_feed 54 = .ok (.aload_n 0, 1) := by decide +kernel
theorem dX11_feed_55 : decode cX11_feed 55 = .ok (.getfield 10, 3) := by decide +kernel
theorem dX11_feed_58 : decode cX11_feed 58 = .ok (.iload_n 2, 1) := by decide +kernel
theorem dX11_feed_59 : decode cX11_feed 59 = .ok (.invokevirtual 112, 3) := by decide +kernel
theorem dX11_feed_62 : decode cX11_feed 62 = .ok (.aload_n 0, 1) := by decide +kernel
theorem dX11_feed_63 : decode cX11_feed 63 = .ok (.getfield 10, 3) := by decide +kernel
theorem dX11_feed_66 : decode cX11_feed 66 = .ok (.iload_n 3, 1) := by decide +kernel
theorem dX11_feed_67 : decode cX11_feed 67 = .ok (.invokevirtual 112, 3) := by decide +kernel
theorem dX11_feed_70 : decode cX11_feed 70 = .ok (.aload_n 0, 1) := by decide +kernel
theorem dX11_feed_71 : decode cX11_feed 71 = .ok (.getfield 10, 3) := by decide +kernel
theorem dX11_feed_74 : decode cX11_feed 74 = .ok (.iload 4, 2) := by decide +kernel
theorem dX11_feed_76 : decode cX11_feed 76 = .ok (.invokevirtual 112, 3) := by decide +kernel
theorem dX11_feed_79 : decode cX11_feed 79 = .ok (.aload_n 0, 1) := by decide +kernel
theorem dX11_feed_80 : decode cX11_feed 80 = .ok (.getfield 10, 3) := by decide +kernel
theorem dX11_feed_83 : decode cX11_feed 83 = .ok (.iload 5, 2) := by decide +kernel
theorem dX11_feed_85 : decode cX11_feed 85 = .ok (.invokevirtual 112, 3) := by decide +kernel
theorem dX11_feed_88 : decode cX11_feed 88 = .ok (.aload_n 0, 1) := by decide +kernel
theorem dX11_feed_89 : decode cX11_feed 89 = .ok (.getfield 10, 3) := by decide +kernel
theorem dX11_feed_92 : decode cX11_feed 92 = .ok (.getfield 109, 3) := by decide +kernel
theorem dX11_feed_95 : decode cX11_feed 95 = .ok (.ireturn, 1) := by decide +kernel
theorem dX11_end_0 : decode cX11_end 0 = .ok (.iload_n 1, 1) := by decide +kernel
theorem dX11_end_1 : decode cX11_end 1 = .ok (.ifCond .lt 14, 3) := by decide +kernel
theorem dX11_end_4 : decode cX11_end 4 = .ok (.iload_n 1, 1) := by decide +kernel
theorem dX11_end_5 : decode cX11_end 5 = .ok (.aload_n 0, 1) := by decide +kernel
theorem dX11_end_6 : decode cX11_end 6 = .ok (.getfield 10, 3) := by decide +kernel
theorem dX11_end_9 : decode cX11_end 9 = .ok (.getfield 109, 3) := by decide +kernel
theorem dX11_end_12 : decode cX11_end 12 = .ok (.if_icmp .le 5, 3) := by decide +kernel
theorem dX11_end_15 : decode cX11_end 15 = .ok (.iconst 0, 1) := by decide +kernel
theorem dX11_end_16 : decode cX11_end 16 = .ok (.ireturn, 1) := by decide +kernel
theorem dX11_end_17 : decode cX11_end 17 = .ok (.aload_n 0, 1) := by decide +kernel
theorem dX11_end_18 : decode cX11_end 18 = .ok (.getfield 10, 3) := by decide +kernel
theorem dX11_end_21 : decode cX11_end 21 = .ok (.iload_n 1, 1) := by decide +kernel
theorem dX11_end_22 : decode cX11_end 22 = .ok (.putfield 109, 3) := by decide +kernel
theorem dX11_end_25 : decode cX11_end 25 = .ok (.iconst 1, 1) := by decide +kernel
theorem dX11_end_26 : decode cX11_end 26 = .ok (.ireturn, 1) := by decide +kernel
theorem dX11_fault_0 : decode cX11_fault 0 = .ok (.iload_n 1, 1) := by decide +kernel
theorem dX11_fault_1 : decode cX11_fault 1 = .ok (.tableswitch 51 0 2 #[27, 35, 43], 27) := by decide +kernel
theorem dX11_fault_28 : decode cX11_fault 28 = .ok (.aload_n 0, 1) := by decide +kernel
theorem dX11_fault_29 : decode cX11_fault 29 = .ok (.getfield 21, 3) := by decide +kernel
theorem dX11_fault_32 : decode cX11_fault 32 = .ok (.invokevirtual 116, 3) := by decide +kernel
theorem dX11_fault_35 : decode cX11_fault 35 = .ok (.ireturn, 1) := by decide +kernel
theorem dX11_fault_36 : decode cX11_fault 36 = .ok (.aload_n 0, 1) := by decide +kernel
theorem dX11_fault_37 : decode cX11_fault 37 = .ok (.getfield 34, 3) := by decide +kernel
theorem dX11_fault_40 : decode cX11_fault 40 = .ok (.invokevirtual 120, 3) := by decide +kernel
theorem dX11_fault_43 : decode cX11_fault 43 = .ok (.ireturn, 1) := by decide +kernel
theorem dX11_fault_44 : decode cX11_fault 44 = .ok (.aload_n 0, 1) := by decide +kernel
theorem dX11_fault_45 : decode cX11_fault 45 = .ok (.getfield 42, 3) := by decide +kernel
theorem dX11_fault_48 : decode cX11_fault 48 = .ok (.invokevirtual 120, 3) := by decide +kernel
theorem dX11_fault_51 : decode cX11_fault 51 = .ok (.ireturn, 1) := by decide +kernel
theorem dX11_fault_52 : decode cX11_fault 52 = .ok (.bipush (-2), 2) := by decide +kernel
theorem dX11_fault_54 : decode cX11_fault 54 = .ok (.ireturn, 1) := by decide +kernel
theorem dX11_saying_0 : decode cX11_saying 0 = .ok (.aload_n 0, 1) := by decide +kernel
theorem dX11_saying_1 : decode cX11_saying 1 = .ok (.getfield 76, 3) := by decide +kernel
theorem dX11_saying_4 : decode cX11_saying 4 = .ok (.invokevirtual 121, 3) := by decide +kernel
theorem dX11_saying_7 : decode cX11_saying 7 = .ok (.bipush 20, 2) := by decide +kernel
theorem dX11_saying_9 : decode cX11_saying 9 = .ok (.if_icmp .ge 14, 3) := by decide +kernel
theorem dX11_saying_12 : decode cX11_saying 12 = .ok (.aload_n 0, 1) := by decide +kernel
theorem dX11_saying_13 : decode cX11_saying 13 = .ok (.getfield 21, 3) := by decide +kernel
theorem dX11_saying_16 : decode cX11_saying 16 = .ok (.invokevirtual 116, 3) := by decide +kernel
theorem dX11_saying_19 : decode cX11_saying 19 = .ok (.iconst (-1), 1) := by decide +kernel
theorem dX11_saying_20 : decode cX11_saying 20 = .ok (.if_icmp .eq 5, 3) := by decide +kernel
theorem dX11_saying_23 : decode cX11_saying 23 = .ok (.iconst (-1), 1) := by decide +kernel
theorem dX11_saying_24 : decode cX11_saying 24 = .ok (.ireturn, 1) := by decide +kernel
theorem dX11_saying_25 : decode cX11_saying 25 = .ok (.new 124, 3) := by decide +kernel
theorem dX11_saying_28 : decode cX11_saying 28 = .ok (.dup, 1) := by decide +kernel
theorem dX11_saying_29 : decode cX11_saying 29 = .ok (.aload_n 0, 1) := by decide +kernel
theorem dX11_saying_30 : decode cX11_saying 30 = .ok (.getfield 10, 3) := by decide +kernel
theorem dX11_saying_33 : decode cX11_saying 33 = .ok (.invokevirtual 126, 3) := by decide +kernel
theorem dX11_saying_36 : decode cX11_saying 36 = .ok (.invokespecial 130, 3) := by decide +kernel
theorem dX11_saying_39 : decode cX11_saying 39 = .ok (.astore_n 1, 1) := by decide +kernel
theorem dX11_saying_40 : decode cX11_saying 40 = .ok (.aload_n 1, 1) := by decide +kernel
theorem dX11_saying_41 : decode cX11_saying 41 = .ok (.aload_n 0, 1) := by decide +kernel
theorem dX11_saying_42 : decode cX11_saying 42 = .ok (.getfield 48, 3) := by decide +kernel
theorem dX11_saying_45 : decode cX11_saying 45 = .ok (.aload_n 1, 1) := by decide +kernel
theorem dX11_saying_46 : decode cX11_saying 46 = .ok (.iconst 0, 1) := by decide +kernel
theorem dX11_saying_47 : decode cX11_saying 47 = .ok (.ldc2_w 133, 3) := by decide +kernel
theorem dX11_saying_50 : decode cX11_saying 50 = .ok (.invokevirtual 135, 3) := by decide +kernel
theorem dX11_saying_53 : decode cX11_saying 53 = .ok (.l2i, 1) := by decide +kernel
theorem dX11_saying_54 : decode cX11_saying 54 = .ok (.putfield 139, 3) := by decide +kernel
theorem dX11_saying_57 : decode cX11_saying 57 = .ok (.aload_n 0, 1) := by decide +kernel
theorem dX11_saying_58 : decode cX11_saying 58 = .ok (.getfield 76, 3) := by decide +kernel
theorem dX11_saying_61 : decode cX11_saying 61 = .ok (.aload_n 1, 1) := by decide +kernel
theorem dX11_saying_62 : decode cX11_saying 62 = .ok (.invokevirtual 142, 3) := by decide +kernel
theorem dX11_saying_65 : decode cX11_saying 65 = .ok (.pop, 1) := by decide +kernel
theorem dX11_saying_66 : decode cX11_saying 66 = .ok (.aload_n 0, 1) := by decide +kernel
theorem dX11_saying_67 : decode cX11_saying 67 = .ok (.getfield 10, 3) := by decide +kernel
theorem dX11_saying_70 : decode cX11_saying 70 = .ok (.iconst 0, 1) := by decide +kernel
theorem dX11_saying_71 : decode cX11_saying 71 = .ok (.putfield 109, 3) := by decide +kernel
theorem dX11_saying_74 : decode cX11_saying 74 = .ok (.aload_n 0, 1) := by decide +kernel
theorem dX11_saying_75 : decode cX11_saying 75 = .ok (.getfield 76, 3) := by decide +kernel
theorem dX11_saying_78 : decode cX11_saying 78 = .ok (.invokevirtual 121, 3) := by decide +kernel
theorem dX11_saying_81 : decode cX11_saying 81 = .ok (.iconst 1, 1) := by decide +kernel
theorem dX11_saying_82 : decode cX11_saying 82 = .ok (.isub, 1) := by decide +kernel
theorem dX11_saying_83 : decode cX11_saying 83 = .ok (.ireturn, 1) := by decide +kernel
theorem dX11_said_0 : decode cX11_said 0 = .ok (.aload_n 0, 1) := by decide +kernel
theorem dX11_said_1 : decode cX11_said 1 = .ok (.iload_n 1, 1) := by decide +kernel
theorem dX11_said_2 : decode cX11_said 2 = .ok (.invokevirtual 146, 3) := by decide +kernel
theorem dX11_said_5 : decode cX11_said 5 = .ok (.astore_n 3, 1) := by decide +kernel
theorem dX11_said_6 : decode cX11_said 6 = .ok (.aload_n 3, 1) := by decide +kernel
theorem dX11_said_7 : decode cX11_said 7 = .ok (.ifnonnull 5, 3) := by decide +kernel
theorem dX11_said_10 : decode cX11_said 10 = .ok (.iconst (-1), 1) := by decide +kernel
theorem dX11_said_11 : decode cX11_said 11 = .ok (.ireturn, 1) := by decide +kernel
theorem dX11_said_12 : decode cX11_said 12 = .ok (.iload_n 2, 1) := by decide +kernel
theorem dX11_said_13 : decode cX11_said 13 = .ok (.tableswitch 42 0 2 #[27, 32, 37], 27) := by decide +kernel
theorem dX11_said_40 : decode cX11_said 40 = .ok (.aload_n 3, 1) := by decide +kernel
theorem dX11_said_41 : decode cX11_said 41 = .ok (.getfield 150, 3) := by decide +kernel
theorem dX11_said_44 : decode cX11_said 44 = .ok (.ireturn, 1) := by decide +kernel
theorem dX11_said_45 : decode cX11_said 45 = .ok (.aload_n 3, 1) := by decide +kernel
theorem dX11_said_46 : decode cX11_said 46 = .ok (.getfield 153, 3) := by decide +kernel
theorem dX11_said_49 : decode cX11_said 49 = .ok (.ireturn, 1) := by decide +kernel
theorem dX11_said_50 : decode cX11_said 50 = .ok (.aload_n 3, 1) := by decide +kernel
theorem dX11_said_51 : decode cX11_said 51 = .ok (.getfield 139, 3) := by decide +kernel
theorem dX11_said_54 : decode cX11_said 54 = .ok (.ireturn, 1) := by decide +kernel
theorem dX11_said_55 : decode cX11_said 55 = .ok (.iload_n 2, 1) := by decide +kernel
theorem dX11_said_56 : decode cX11_said 56 = .ok (.iconst 3, 1) := by decide +kernel
theorem dX11_said_57 : decode cX11_said 57 = .ok (.if_icmp .lt 9, 3) := by decide +kernel
theorem dX11_said_60 : decode cX11_said 60 = .ok (.iload_n 2, 1) := by decide +kernel
theorem dX11_said_61 : decode cX11_said 61 = .ok (.bipush 8, 2) := by decide +kernel
theorem dX11_said_63 : decode cX11_said 63 = .ok (.if_icmp .le 7, 3) := by decide +kernel
theorem dX11_said_66 : decode cX11_said 66 = .ok (.iconst (-1), 1) := by decide +kernel
theorem dX11_said_67 : decode cX11_said 67 = .ok (.goto 10, 3) := by decide +kernel
theorem dX11_said_70 : decode cX11_said 70 = .ok (.aload_n 3, 1) := by decide +kernel
theorem dX11_said_71 : decode cX11_said 71 = .ok (.iload_n 2, 1) := by decide +kernel
theorem dX11_said_72 : decode cX11_said 72 = .ok (.iconst 3, 1) := by decide +kernel
theorem dX11_said_73 : decode cX11_said 73 = .ok (.isub, 1) := by decide +kernel
theorem dX11_said_74 : decode cX11_said 74 = .ok (.invokevirtual 156, 3) := by decide +kernel
theorem dX11_said_77 : decode cX11_said 77 = .ok (.ireturn, 1) := by decide +kernel
theorem dX11_truth_0 : decode cX11_truth 0 = .ok (.aload_n 0, 1) := by decide +kernel
theorem dX11_truth_1 : decode cX11_truth 1 = .ok (.iload_n 1, 1) := by decide +kernel
theorem dX11_truth_2 : decode cX11_truth 2 = .ok (.invokevirtual 146, 3) := by decide +kernel
theorem dX11_truth_5 : decode cX11_truth 5 = .ok (.astore_n 3, 1) := by decide +kernel
theorem dX11_truth_6 : decode cX11_truth 6 = .ok (.aload_n 3, 1) := by decide +kernel
theorem dX11_truth_7 : decode cX11_truth 7 = .ok (.ifnull 13, 3) := by decide +kernel
theorem dX11_truth_10 : decode cX11_truth 10 = .ok (.iload_n 2, 1) := by decide +kernel
theorem dX11_truth_11 : decode cX11_truth 11 = .ok (.ifCond .lt 9, 3) := by decide +kernel
theorem dX11_truth_14 : decode cX11_truth 14 = .ok (.iload_n 2, 1) := by decide +kernel
theorem dX11_truth_15 : decode cX11_truth 15 = .ok (.bipush 64, 2) := by decide +kernel
theorem dX11_truth_17 : decode cX11_truth 17 = .ok (.if_icmp .lt 5, 3) := by decide +kernel
theorem dX11_truth_20 : decode cX11_truth 20 = .ok (.iconst (-1), 1) := by decide +kernel
theorem dX11_truth_21 : decode cX11_truth 21 = .ok (.ireturn, 1) := by decide +kernel
theorem dX11_truth_22 : decode cX11_truth 22 = .ok (.iconst 0, 1) := by decide +kernel
theorem dX11_truth_23 : decode cX11_truth 23 = .ok (.istore 4, 2) := by decide +kernel
theorem dX11_truth_25 : decode cX11_truth 25 = .ok (.iload 4, 2) := by decide +kernel
theorem dX11_truth_27 : decode cX11_truth 27 = .ok (.bipush 6, 2) := by decide +kernel
theorem dX11_truth_29 : decode cX11_truth 29 = .ok (.if_icmp .ge 25, 3) := by decide +kernel
theorem dX11_truth_32 : decode cX11_truth 32 = .ok (.aload_n 0, 1) := by decide +kernel
theorem dX11_truth_33 : decode cX11_truth 33 = .ok (.getfield 48, 3) := by decide +kernel
theorem dX11_truth_36 : decode cX11_truth 36 = .ok (.iload 4, 2) := by decide +kernel
theorem dX11_truth_38 : decode cX11_truth 38 = .ok (.iload_n 2, 1) := by decide +kernel
theorem dX11_truth_39 : decode cX11_truth 39 = .ok (.iload 4, 2) := by decide +kernel
theorem dX11_truth_41 : decode cX11_truth 41 = .ok (.ishr, 1) := by decide +kernel
theorem dX11_truth_42 : decode cX11_truth 42 = .ok (.iconst 1, 1) := by decide +kernel
theorem dX11_truth_43 : decode cX11_truth 43 = .ok (.iand, 1) := by decide +kernel
theorem dX11_truth_44 : decode cX11_truth 44 = .ok (.i2l, 1) := by decide +kernel
theorem dX11_truth_45 : decode cX11_truth 45 = .ok (.invokevirtual 159, 3) := by decide +kernel
theorem dX11_truth_48 : decode cX11_truth 48 = .ok (.iinc 4 1, 3) := by decide +kernel
theorem dX11_truth_51 : decode cX11_truth 51 = .ok (.goto (-26), 3) := by decide +kernel
theorem dX11_truth_54 : decode cX11_truth 54 = .ok (.aload_n 0, 1) := by decide +kernel
theorem dX11_truth_55 : decode cX11_truth 55 = .ok (.getfield 48, 3) := by decide +kernel
theorem dX11_truth_58 : decode cX11_truth 58 = .ok (.aload_n 3, 1) := by decide +kernel
theorem dX11_truth_59 : decode cX11_truth 59 = .ok (.ldc2_w 133, 3) := by decide +kernel
theorem dX11_truth_62 : decode cX11_truth 62 = .ok (.invokevirtual 163, 3) := by decide +kernel
theorem dX11_truth_65 : decode cX11_truth 65 = .ok (.l2i, 1) := by decide +kernel
theorem dX11_truth_66 : decode cX11_truth 66 = .ok (.ireturn, 1) := by decide +kernel
theorem dX11_lay_0 : decode cX11_lay 0 = .ok (.iload_n 1, 1) := by decide +kernel
theorem dX11_lay_1 : decode cX11_lay 1 = .ok (.ifCond .lt 22, 3) := by decide +kernel
theorem dX11_lay_4 : decode cX11_lay 4 = .ok (.aload_n 0, 1) := by decide +kernel
theorem dX11_lay_5 : decode cX11_lay 5 = .ok (.getfield 101, 3) := by decide +kernel
theorem dX11_lay_8 : decode cX11_lay 8 = .ok (.ifCond .lt 15, 3) := by decide +kernel
theorem dX11_lay_11 : decode cX11_lay 11 = .ok (.aload_n 0, 1) := by decide +kernel
theorem dX11_lay_12 : decode cX11_lay 12 = .ok (.getfield 101, 3) := by decide +kernel
theorem dX11_lay_15 : decode cX11_lay 15 = .ok (.aload_n 0, 1) := by decide +kernel
theorem dX11_lay_16 : decode cX11_lay 16 = .ok (.getfield 92, 3) := by decide +kernel
theorem dX11_lay_19 : decode cX11_lay 19 = .ok (.arraylength, 1) := by decide +kernel
theorem dX11_lay_20 : decode cX11_lay 20 = .ok (.if_icmp .lt 5, 3) := by decide +kernel
theorem dX11_lay_23 : decode cX11_lay 23 = .ok (.iconst (-1), 1) := by decide +kernel
theorem dX11_lay_24 : decode cX11_lay 24 = .ok (.ireturn, 1) := by decide +kernel
theorem dX11_lay_25 : decode cX11_lay 25 = .ok (.aload_n 0, 1) := by decide +kernel
theorem dX11_lay_26 : decode cX11_lay 26 = .ok (.getfield 92, 3) := by decide +kernel
theorem dX11_lay_29 : decode cX11_lay 29 = .ok (.aload_n 0, 1) := by decide +kernel
theorem dX11_lay_30 : decode cX11_lay 30 = .ok (.getfield 101, 3) := by decide +kernel
theorem dX11_lay_33 : decode cX11_lay 33 = .ok (.iload_n 1, 1) := by decide +kernel
theorem dX11_lay_34 : decode cX11_lay 34 = .ok (.iastore, 1) := by decide +kernel
theorem dX11_lay_35 : decode cX11_lay 35 = .ok (.aload_n 0, 1) := by decide +kernel
theorem dX11_lay_36 : decode cX11_lay 36 = .ok (.dup, 1) := by decide +kernel
theorem dX11_lay_37 : decode cX11_lay 37 = .ok (.getfield 101, 3) := by decide +kernel
theorem dX11_lay_40 : decode cX11_lay 40 = .ok (.iconst 1, 1) := by decide +kernel
theorem dX11_lay_41 : decode cX11_lay 41 = .ok (.iadd, 1) := by decide +kernel
theorem dX11_lay_42 : decode cX11_lay 42 = .ok (.putfield 101, 3) := by decide +kernel
theorem dX11_lay_45 : decode cX11_lay 45 = .ok (.aload_n 0, 1) := by decide +kernel
theorem dX11_lay_46 : decode cX11_lay 46 = .ok (.getfield 101, 3) := by decide +kernel
theorem dX11_lay_49 : decode cX11_lay 49 = .ok (.iconst 1, 1) := by decide +kernel
theorem dX11_lay_50 : decode cX11_lay 50 = .ok (.isub, 1) := by decide +kernel
theorem dX11_lay_51 : decode cX11_lay 51 = .ok (.ireturn, 1) := by decide +kernel
theorem dX11_clear_0 : decode cX11_clear 0 = .ok (.aload_n 0, 1) := by decide +kernel
theorem dX11_clear_1 : decode cX11_clear 1 = .ok (.getfield 101, 3) := by decide +kernel
theorem dX11_clear_4 : decode cX11_clear 4 = .ok (.istore_n 1, 1) := by decide +kernel
theorem dX11_clear_5 : decode cX11_clear 5 = .ok (.aload_n 0, 1) := by decide +kernel
theorem dX11_clear_6 : decode cX11_clear 6 = .ok (.iconst 0, 1) := by decide +kernel
theorem dX11_clear_7 : decode cX11_clear 7 = .ok (.putfield 101, 3) := by decide +kernel
theorem dX11_clear_10 : decode cX11_clear 10 = .ok (.iload_n 1, 1) := by decide +kernel
theorem dX11_clear_11 : decode cX11_clear 11 = .ok (.ireturn, 1) := by decide +kernel
theorem dX11_worth_0 : decode cX11_worth 0 = .ok (.aload_n 0, 1) := by decide +kernel
theorem dX11_worth_1 : decode cX11_worth 1 = .ok (.iload_n 1, 1) := by decide +kernel
theorem dX11_worth_2 : decode cX11_worth 2 = .ok (.invokevirtual 146, 3) := by decide +kernel
theorem dX11_worth_5 : decode cX11_worth 5 = .ok (.astore_n 3, 1) := by decide +kernel
theorem dX11_worth_6 : decode cX11_worth 6 = .ok (.aload_n 3, 1) := by decide +kernel
theorem dX11_worth_7 : decode cX11_worth 7 = .ok (.ifnull 21, 3) := by decide +kernel
theorem dX11_worth_10 : decode cX11_worth 10 = .ok (.iload_n 2, 1) := by decide +kernel
theorem dX11_worth_11 : decode cX11_worth 11 = .ok (.invokestatic 167, 3) := by decide +kernel
theorem dX11_worth_14 : decode cX11_worth 14 = .ok (.ifCond .eq 14, 3) := by decide +kernel
theorem dX11_worth_17 : decode cX11_worth 17 = .ok (.aload_n 0, 1) := by decide +kernel
theorem dX11_worth_18 : decode cX11_worth 18 = .ok (.getfield 101, 3) := by decide +kernel
theorem dX11_worth_21 : decode cX11_worth 21 = .ok (.aload_n 3, 1) := by decide +kernel
theorem dX11_worth_22 : decode cX11_worth 22 = .ok (.getfield 150, 3) := by decide +kernel
theorem dX11_worth_25 : decode cX11_worth 25 = .ok (.if_icmp .ge 5, 3) := by decide +kernel
theorem dX11_worth_28 : decode cX11_worth 28 = .ok (.iconst (-1), 1) := by decide +kernel
theorem dX11_worth_29 : decode cX11_worth 29 = .ok (.ireturn, 1) := by decide +kernel
theorem dX11_worth_30 : decode cX11_worth 30 = .ok (.aload_n 0, 1) := by decide +kernel
theorem dX11_worth_31 : decode cX11_worth 31 = .ok (.iload_n 2, 1) := by decide +kernel
theorem dX11_worth_32 : decode cX11_worth 32 = .ok (.invokevirtual 171, 3) := by decide +kernel
theorem dX11_worth_35 : decode cX11_worth 35 = .ok (.aload_n 0, 1) := by decide +kernel
theorem dX11_worth_36 : decode cX11_worth 36 = .ok (.getfield 48, 3) := by decide +kernel
theorem dX11_worth_39 : decode cX11_worth 39 = .ok (.aload_n 3, 1) := by decide +kernel
theorem dX11_worth_40 : decode cX11_worth 40 = .ok (.iload_n 2, 1) := by decide +kernel
theorem dX11_worth_41 : decode cX11_worth 41 = .ok (.i2l, 1) := by decide +kernel
theorem dX11_worth_42 : decode cX11_worth 42 = .ok (.invokevirtual 163, 3) := by decide +kernel
theorem dX11_worth_45 : decode cX11_worth 45 = .ok (.l2i, 1) := by decide +kernel
theorem dX11_worth_46 : decode cX11_worth 46 = .ok (.ireturn, 1) := by decide +kernel
theorem dX11_sum_0 : decode cX11_sum 0 = .ok (.aload_n 0, 1) := by decide +kernel
theorem dX11_sum_1 : decode cX11_sum 1 = .ok (.iload_n 1, 1) := by decide +kernel
theorem dX11_sum_2 : decode cX11_sum 2 = .ok (.invokevirtual 146, 3) := by decide +kernel
theorem dX11_sum_5 : decode cX11_sum 5 = .ok (.astore_n 3, 1) := by decide +kernel
theorem dX11_sum_6 : decode cX11_sum 6 = .ok (.aload_n 3, 1) := by decide +kernel
theorem dX11_sum_7 : decode cX11_sum 7 = .ok (.ifnull 10, 3) := by decide +kernel
theorem dX11_sum_10 : decode cX11_sum 10 = .ok (.iload_n 2, 1) := by decide +kernel
theorem dX11_sum_11 : decode cX11_sum 11 = .ok (.invokestatic 167, 3) := by decide +kernel
theorem dX11_sum_14 : decode cX11_sum 14 = .ok (.ifCond .ne 5, 3) := by decide +kernel
theorem dX11_sum_17 : decode cX11_sum 17 = .ok (.iconst (-1), 1) := by decide +kernel
theorem dX11_sum_18 : decode cX11_sum 18 = .ok (.ireturn, 1) := by decide +kernel
theorem dX11_sum_19 : decode cX11_sum 19 = .ok (.aload_n 0, 1) := by decide +kernel
theorem dX11_sum_20 : decode cX11_sum 20 = .ok (.iload_n 2, 1) := by decide +kernel
theorem dX11_sum_21 : decode cX11_sum 21 = .ok (.invokevirtual 171, 3) := by decide +kernel
theorem dX11_sum_24 : decode cX11_sum 24 = .ok (.aload_n 0, 1) := by decide +kernel
theorem dX11_sum_25 : decode cX11_sum 25 = .ok (.getfield 48, 3) := by decide +kernel
theorem dX11_sum_28 : decode cX11_sum 28 = .ok (.aload_n 3, 1) := by decide +kernel
theorem dX11_sum_29 : decode cX11_sum 29 = .ok (.aload_n 0, 1) := by decide +kernel
theorem dX11_sum_30 : decode cX11_sum 30 = .ok (.getfield 101, 3) := by decide +kernel
theorem dX11_sum_33 : decode cX11_sum 33 = .ok (.iload_n 2, 1) := by decide +kernel
theorem dX11_sum_34 : decode cX11_sum 34 = .ok (.i2l, 1) := by decide +kernel
theorem dX11_sum_35 : decode cX11_sum 35 = .ok (.invokevirtual 135, 3) := by decide +kernel
theorem dX11_sum_38 : decode cX11_sum 38 = .ok (.l2i, 1) := by decide +kernel
theorem dX11_sum_39 : decode cX11_sum 39 = .ok (.ireturn, 1) := by decide +kernel
theorem dX11_prime_0 : decode cX11_prime 0 = .ok (.iload_n 1, 1) := by decide +kernel
theorem dX11_prime_1 : decode cX11_prime 1 = .ok (.invokestatic 174, 3) := by decide +kernel
theorem dX11_prime_4 : decode cX11_prime 4 = .ok (.ireturn, 1) := by decide +kernel
theorem dX11_curve_0 : decode cX11_curve 0 = .ok (.iload_n 1, 1) := by decide +kernel
theorem dX11_curve_1 : decode cX11_curve 1 = .ok (.invokestatic 167, 3) := by decide +kernel
theorem dX11_curve_4 : decode cX11_curve 4 = .ok (.ifCond .eq 23, 3) := by decide +kernel
theorem dX11_curve_7 : decode cX11_curve 7 = .ok (.aload_n 0, 1) := by decide +kernel
theorem dX11_curve_8 : decode cX11_curve 8 = .ok (.getfield 101, 3) := by decide +kernel
theorem dX11_curve_11 : decode cX11_curve 11 = .ok (.iconst 1, 1) := by decide +kernel
theorem dX11_curve_12 : decode cX11_curve 12 = .ok (.if_icmp .lt 15, 3) := by decide +kernel
theorem dX11_curve_15 : decode cX11_curve 15 = .ok (.aload_n 0, 1) := by decide +kernel
theorem dX11_curve_16 : decode cX11_curve 16 = .ok (.getfield 101, 3) := by decide +kernel
theorem dX11_curve_19 : decode cX11_curve 19 = .ok (.iload_n 1, 1) := by decide +kernel
theorem dX11_curve_20 : decode cX11_curve 20 = .ok (.if_icmp .ge 7, 3) := by decide +kernel
theorem dX11_curve_23 : decode cX11_curve 23 = .ok (.iload_n 2, 1) := by decide +kernel
theorem dX11_curve_24 : decode cX11_curve 24 = .ok (.ifCond .ge 5, 3) := by decide +kernel
theorem dX11_curve_27 : decode cX11_curve 27 = .ok (.iconst (-1), 1) := by decide +kernel
theorem dX11_curve_28 : decode cX11_curve 28 = .ok (.ireturn, 1) := by decide +kernel
theorem dX11_curve_29 : decode cX11_curve 29 = .ok (.aload_n 0, 1) := by decide +kernel
theorem dX11_curve_30 : decode cX11_curve 30 = .ok (.iload_n 1, 1) := by decide +kernel
theorem dX11_curve_31 : decode cX11_curve 31 = .ok (.invokevirtual 171, 3) := by decide +kernel
theorem dX11_curve_34 : decode cX11_curve 34 = .ok (.aload_n 0, 1) := by decide +kernel
theorem dX11_curve_35 : decode cX11_curve 35 = .ok (.getfield 48, 3) := by decide +kernel
theorem dX11_curve_38 : decode cX11_curve 38 = .ok (.aload_n 0, 1) := by decide +kernel
theorem dX11_curve_39 : decode cX11_curve 39 = .ok (.getfield 48, 3) := by decide +kernel
theorem dX11_curve_42 : decode cX11_curve 42 = .ok (.getfield 177, 3) := by decide +kernel
theorem dX11_curve_45 : decode cX11_curve 45 = .ok (.aload_n 0, 1) := by decide +kernel
theorem dX11_curve_46 : decode cX11_curve 46 = .ok (.getfield 101, 3) := by decide +kernel
theorem dX11_curve_49 : decode cX11_curve 49 = .ok (.iload_n 1, 1) := by decide +kernel
theorem dX11_curve_50 : decode cX11_curve 50 = .ok (.i2l, 1) := by decide +kernel
theorem dX11_curve_51 : decode cX11_curve 51 = .ok (.iload_n 2, 1) := by decide +kernel
theorem dX11_curve_52 : decode cX11_curve 52 = .ok (.i2l, 1) := by decide +kernel
theorem dX11_curve_53 : decode cX11_curve 53 = .ok (.iload_n 1, 1) := by decide +kernel
theorem dX11_curve_54 : decode cX11_curve 54 = .ok (.i2l, 1) := by decide +kernel
theorem dX11_curve_55 : decode cX11_curve 55 = .ok (.invokestatic 181, 3) := by decide +kernel
theorem dX11_curve_58 : decode cX11_curve 58 = .ok (.invokevirtual 185, 3) := by decide +kernel
theorem dX11_curve_61 : decode cX11_curve 61 = .ok (.l2i, 1) := by decide +kernel
theorem dX11_curve_62 : decode cX11_curve 62 = .ok (.ireturn, 1) := by decide +kernel
theorem dX11_law_0 : decode cX11_law 0 = .ok (.aload_n 0, 1) := by decide +kernel
theorem dX11_law_1 : decode cX11_law 1 = .ok (.aload_n 0, 1) := by decide +kernel
theorem dX11_law_2 : decode cX11_law 2 = .ok (.getfield 80, 3) := by decide +kernel
theorem dX11_law_5 : decode cX11_law 5 = .ok (.aload_n 0, 1) := by decide +kernel
theorem dX11_law_6 : decode cX11_law 6 = .ok (.getfield 34, 3) := by decide +kernel
theorem dX11_law_9 : decode cX11_law 9 = .ok (.invokevirtual 189, 3) := by decide +kernel
theorem dX11_law_12 : decode cX11_law 12 = .ok (.ireturn, 1) := by decide +kernel
theorem dX11_giant_0 : decode cX11_giant 0 = .ok (.aload_n 0, 1) := by decide +kernel
theorem dX11_giant_1 : decode cX11_giant 1 = .ok (.aload_n 0, 1) := by decide +kernel
theorem dX11_giant_2 : decode cX11_giant 2 = .ok (.getfield 83, 3) := by decide +kernel
theorem dX11_giant_5 : decode cX11_giant 5 = .ok (.aload_n 0, 1) := by decide +kernel
theorem dX11_giant_6 : decode cX11_giant 6 = .ok (.getfield 42, 3) := by decide +kernel
theorem dX11_giant_9 : decode cX11_giant 9 = .ok (.invokevirtual 189, 3) := by decide +kernel
theorem dX11_giant_12 : decode cX11_giant 12 = .ok (.ireturn, 1) := by decide +kernel
theorem dX11_talk_0 : decode cX11_talk 0 = .ok (.aload_n 0, 1) := by decide +kernel
theorem dX11_talk_1 : decode cX11_talk 1 = .ok (.iload_n 1, 1) := by decide +kernel
theorem dX11_talk_2 : decode cX11_talk 2 = .ok (.invokevirtual 146, 3) := by decide +kernel
theorem dX11_talk_5 : decode cX11_talk 5 = .ok (.astore 5, 2) := by decide +kernel
theorem dX11_talk_7 : decode cX11_talk 7 = .ok (.aload_n 0, 1) := by decide +kernel
theorem dX11_talk_8 : decode cX11_talk 8 = .ok (.getfield 80, 3) := by decide +kernel
theorem dX11_talk_11 : decode cX11_talk 11 = .ok (.iload_n 3, 1) := by decide +kernel
theorem dX11_talk_12 : decode cX11_talk 12 = .ok (.invokestatic 193, 3) := by decide +kernel
theorem dX11_talk_15 : decode cX11_talk 15 = .ok (.astore 6, 2) := by decide +kernel
theorem dX11_talk_17 : decode cX11_talk 17 = .ok (.aload_n 0, 1) := by decide +kernel
theorem dX11_talk_18 : decode cX11_talk 18 = .ok (.getfield 83, 3) := by decide +kernel
theorem dX11_talk_21 : decode cX11_talk 21 = .ok (.iload 4, 2) := by decide +kernel
theorem dX11_talk_23 : decode cX11_talk 23 = .ok (.invokestatic 193, 3) := by decide +kernel
theorem dX11_talk_26 : decode cX11_talk 26 = .ok (.astore 7, 2) := by decide +kernel
theorem dX11_talk_28 : decode cX11_talk 28 = .ok (.aload 5, 2) := by decide +kernel
theorem dX11_talk_30 : decode cX11_talk 30 = .ok (.ifnull 25, 3) := by decide +kernel
theorem dX11_talk_33 : decode cX11_talk 33 = .ok (.aload 6, 2) := by decide +kernel
theorem dX11_talk_35 : decode cX11_talk 35 = .ok (.ifnull 20, 3) := by decide +kernel
theorem dX11_talk_38 : decode cX11_talk 38 = .ok (.aload 7, 2) := by decide +kernel
theorem dX11_talk_40 : decode cX11_talk 40 = .ok (.ifnull 15, 3) := by decide +kernel
theorem dX11_talk_43 : decode cX11_talk 43 = .ok (.aload_n 0, 1) := by decide +kernel
theorem dX11_talk_44 : decode cX11_talk 44 = .ok (.getfield 86, 3) := by decide +kernel
theorem dX11_talk_47 : decode cX11_talk 47 = .ok (.invokevirtual 121, 3) := by decide +kernel
theorem dX11_talk_50 : decode cX11_talk 50 = .ok (.bipush 12, 2) := by decide +kernel
theorem dX11_talk_52 : decode cX11_talk 52 = .ok (.if_icmp .lt 5, 3) := by decide +kernel
theorem dX11_talk_55 : decode cX11_talk 55 = .ok (.iconst (-1), 1) := by decide +kernel
theorem dX11_talk_56 : decode cX11_talk 56 = .ok (.ireturn, 1) := by decide +kernel
theorem dX11_talk_57 : decode cX11_talk 57 = .ok (.iload_n 2, 1) := by decide +kernel
theorem dX11_talk_58 : decode cX11_talk 58 = .ok (.invokestatic 167, 3) := by decide +kernel
theorem dX11_talk_61 : decode cX11_talk 61 = .ok (.ifCond .eq 12, 3) := by decide +kernel
theorem dX11_talk_64 : decode cX11_talk 64 = .ok (.iload_n 2, 1) := by decide +kernel
theorem dX11_talk_65 : decode cX11_talk 65 = .ok (.aload 5, 2) := by decide +kernel
theorem dX11_talk_67 : decode cX11_talk 67 = .ok (.invokevirtual 197, 3) := by decide +kernel
theorem dX11_talk_70 : decode cX11_talk 70 = .ok (.if_icmp .gt 5, 3) := by decide +kernel
theorem dX11_talk_73 : decode cX11_talk 73 = .ok (.iconst (-1), 1) := by decide +kernel
theorem dX11_talk_74 : decode cX11_talk 74 = .ok (.ireturn, 1) := by decide +kernel
theorem dX11_talk_75 : decode cX11_talk 75 = .ok (.aload_n 0, 1) := by decide +kernel
theorem dX11_talk_76 : decode cX11_talk 76 = .ok (.getfield 86, 3) := by decide +kernel
theorem dX11_talk_79 : decode cX11_talk 79 = .ok (.new 200, 3) := by decide +kernel
theorem dX11_talk_82 : decode cX11_talk 82 = .ok (.dup, 1) := by decide +kernel
theorem dX11_talk_83 : decode cX11_talk 83 = .ok (.aload 5, 2) := by decide +kernel
theorem dX11_talk_85 : decode cX11_talk 85 = .ok (.iload_n 2, 1) := by decide +kernel
theorem dX11_talk_86 : decode cX11_talk 86 = .ok (.aload 6, 2) := by decide +kernel
theorem dX11_talk_88 : decode cX11_talk 88 = .ok (.aload 7, 2) := by decide +kernel
theorem dX11_talk_90 : decode cX11_talk 90 = .ok (.invokespecial 202, 3) := by decide +kernel
theorem dX11_talk_93 : decode cX11_talk 93 = .ok (.invokevirtual 142, 3) := by decide +kernel
theorem dX11_talk_96 : decode cX11_talk 96 = .ok (.pop, 1) := by decide +kernel
theorem dX11_talk_97 : decode cX11_talk 97 = .ok (.aload_n 0, 1) := by decide +kernel
theorem dX11_talk_98 : decode cX11_talk 98 = .ok (.getfield 86, 3) := by decide +kernel
theorem dX11_talk_101 : decode cX11_talk 101 = .ok (.invokevirtual 121, 3) := by decide +kernel
theorem dX11_talk_104 : decode cX11_talk 104 = .ok (.iconst 1, 1) := by decide +kernel
theorem dX11_talk_105 : decode cX11_talk 105 = .ok (.isub, 1) := by decide +kernel
theorem dX11_talk_106 : decode cX11_talk 106 = .ok (.ireturn, 1) := by decide +kernel
theorem dX11_run_0 : decode cX11_run 0 = .ok (.aload_n 0, 1) := by decide +kernel
theorem dX11_run_1 : decode cX11_run 1 = .ok (.iload_n 1, 1) := by decide +kernel
theorem dX11_run_2 : decode cX11_run 2 = .ok (.invokevirtual 205, 3) := by decide +kernel
theorem dX11_run_5 : decode cX11_run 5 = .ok (.astore 5, 2) := by decide +kernel
theorem dX11_run_7 : decode cX11_run 7 = .ok (.aload 5, 2) := by decide +kernel
theorem dX11_run_9 : decode cX11_run 9 = .ok (.ifnull 11, 3) := by decide +kernel
theorem dX11_run_12 : decode cX11_run 12 = .ok (.iload 4, 2) := by decide +kernel
theorem dX11_run_14 : decode cX11_run 14 = .ok (.invokestatic 209, 3) := by decide +kernel
theorem dX11_run_17 : decode cX11_run 17 = .ok (.ifCond .ne 5, 3) := by decide +kernel
theorem dX11_run_20 : decode cX11_run 20 = .ok (.iconst (-1), 1) := by decide +kernel
theorem dX11_run_21 : decode cX11_run 21 = .ok (.ireturn, 1) := by decide +kernel
theorem dX11_run_22 : decode cX11_run 22 = .ok (.aload_n 0, 1) := by decide +kernel
theorem dX11_run_23 : decode cX11_run 23 = .ok (.getfield 66, 3) := by decide +kernel
theorem dX11_run_26 : decode cX11_run 26 = .ok (.aload 5, 2) := by decide +kernel
theorem dX11_run_28 : decode cX11_run 28 = .ok (.lload_n 2, 1) := by decide +kernel
theorem dX11_run_29 : decode cX11_run 29 = .ok (.iload 4, 2) := by decide +kernel
theorem dX11_run_31 : decode cX11_run 31 = .ok (.invokevirtual 212, 3) := by decide +kernel
theorem dX11_run_34 : decode cX11_run 34 = .ok (.ifCond .eq 7, 3) := by decide +kernel
theorem dX11_run_37 : decode cX11_run 37 = .ok (.iconst 1, 1) := by decide +kernel
theorem dX11_run_38 : decode cX11_run 38 = .ok (.goto 4, 3) := by decide +kernel
theorem dX11_run_41 : decode cX11_run 41 = .ok (.iconst 0, 1) := by decide +kernel
theorem dX11_run_42 : decode cX11_run 42 = .ok (.ireturn, 1) := by decide +kernel
theorem dX11_fixed_0 : decode cX11_fixed 0 = .ok (.aload_n 0, 1) := by decide +kernel
theorem dX11_fixed_1 : decode cX11_fixed 1 = .ok (.iload_n 1, 1) := by decide +kernel
theorem dX11_fixed_2 : decode cX11_fixed 2 = .ok (.invokevirtual 205, 3) := by decide +kernel
theorem dX11_fixed_5 : decode cX11_fixed 5 = .ok (.astore_n 3, 1) := by decide +kernel
theorem dX11_fixed_6 : decode cX11_fixed 6 = .ok (.aload_n 3, 1) := by decide +kernel
theorem dX11_fixed_7 : decode cX11_fixed 7 = .ok (.ifnull 10, 3) := by decide +kernel
theorem dX11_fixed_10 : decode cX11_fixed 10 = .ok (.iload_n 2, 1) := by decide +kernel
theorem dX11_fixed_11 : decode cX11_fixed 11 = .ok (.invokestatic 209, 3) := by decide +kernel
theorem dX11_fixed_14 : decode cX11_fixed 14 = .ok (.ifCond .ne 5, 3) := by decide +kernel
theorem dX11_fixed_17 : decode cX11_fixed 17 = .ok (.iconst (-1), 1) := by decide +kernel
theorem dX11_fixed_18 : decode cX11_fixed 18 = .ok (.ireturn, 1) := by decide +kernel
theorem dX11_fixed_19 : decode cX11_fixed 19 = .ok (.aload_n 0, 1) := by decide +kernel
theorem dX11_fixed_20 : decode cX11_fixed 20 = .ok (.getfield 66, 3) := by decide +kernel
theorem dX11_fixed_23 : decode cX11_fixed 23 = .ok (.aload_n 3, 1) := by decide +kernel
theorem dX11_fixed_24 : decode cX11_fixed 24 = .ok (.iload_n 2, 1) := by decide +kernel
theorem dX11_fixed_25 : decode cX11_fixed 25 = .ok (.invokevirtual 216, 3) := by decide +kernel
theorem dX11_fixed_28 : decode cX11_fixed 28 = .ok (.ifCond .eq 7, 3) := by decide +kernel
theorem dX11_fixed_31 : decode cX11_fixed 31 = .ok (.iconst 1, 1) := by decide +kernel
theorem dX11_fixed_32 : decode cX11_fixed 32 = .ok (.goto 4, 3) := by decide +kernel
theorem dX11_fixed_35 : decode cX11_fixed 35 = .ok (.iconst 0, 1) := by decide +kernel
theorem dX11_fixed_36 : decode cX11_fixed 36 = .ok (.ireturn, 1) := by decide +kernel
theorem dX11_latest_0 : decode cX11_latest 0 = .ok (.aload_n 0, 1) := by decide +kernel
theorem dX11_latest_1 : decode cX11_latest 1 = .ok (.getfield 66, 3) := by decide +kernel
theorem dX11_latest_4 : decode cX11_latest 4 = .ok (.getfield 220, 3) := by decide +kernel
theorem dX11_latest_7 : decode cX11_latest 7 = .ok (.ifnonnull 5, 3) := by decide +kernel
theorem dX11_latest_10 : decode cX11_latest 10 = .ok (.iconst (-1), 1) := by decide +kernel
theorem dX11_latest_11 : decode cX11_latest 11 = .ok (.ireturn, 1) := by decide +kernel
theorem dX11_latest_12 : decode cX11_latest 12 = .ok (.iload_n 1, 1) := by decide +kernel
theorem dX11_latest_13 : decode cX11_latest 13 = .ok (.tableswitch 65 0 3 #[31, 40, 48, 57], 31) := by decide +kernel
theorem dX11_latest_44 : decode cX11_latest 44 = .ok (.aload_n 0, 1) := by decide +kernel
theorem dX11_latest_45 : decode cX11_latest 45 = .ok (.getfield 66, 3) := by decide +kernel
theorem dX11_latest_48 : decode cX11_latest 48 = .ok (.getfield 224, 3) := by decide +kernel
theorem dX11_latest_51 : decode cX11_latest 51 = .ok (.l2i, 1) := by decide +kernel
theorem dX11_latest_52 : decode cX11_latest 52 = .ok (.ireturn, 1) := by decide +kernel
theorem dX11_latest_53 : decode cX11_latest 53 = .ok (.aload_n 0, 1) := by decide +kernel
theorem dX11_latest_54 : decode cX11_latest 54 = .ok (.getfield 66, 3) := by decide +kernel
theorem dX11_latest_57 : decode cX11_latest 57 = .ok (.getfield 228, 3) := by decide +kernel
theorem dX11_latest_60 : decode cX11_latest 60 = .ok (.ireturn, 1) := by decide +kernel
theorem dX11_latest_61 : decode cX11_latest 61 = .ok (.aload_n 0, 1) := by decide +kernel
theorem dX11_latest_62 : decode cX11_latest 62 = .ok (.getfield 66, 3) := by decide +kernel
theorem dX11_latest_65 : decode cX11_latest 65 = .ok (.getfield 231, 3) := by decide +kernel
theorem dX11_latest_68 : decode cX11_latest 68 = .ok (.l2i, 1) := by decide +kernel
theorem dX11_latest_69 : decode cX11_latest 69 = .ok (.ireturn, 1) := by decide +kernel
theorem dX11_latest_70 : decode cX11_latest 70 = .ok (.aload_n 0, 1) := by decide +kernel
theorem dX11_latest_71 : decode cX11_latest 71 = .ok (.getfield 66, 3) := by decide +kernel
theorem dX11_latest_74 : decode cX11_latest 74 = .ok (.getfield 234, 3) := by decide +kernel
theorem dX11_latest_77 : decode cX11_latest 77 = .ok (.ireturn, 1) := by decide +kernel
theorem dX11_latest_78 : decode cX11_latest 78 = .ok (.iconst (-1), 1) := by decide +kernel
theorem dX11_latest_79 : decode cX11_latest 79 = .ok (.ireturn, 1) := by decide +kernel
theorem dX11_value_0 : decode cX11_value 0 = .ok (.aload_n 0, 1) := by decide +kernel
theorem dX11_value_1 : decode cX11_value 1 = .ok (.getfield 66, 3) := by decide +kernel
theorem dX11_value_4 : decode cX11_value 4 = .ok (.iload_n 1, 1) := by decide +kernel
theorem dX11_value_5 : decode cX11_value 5 = .ok (.iload_n 2, 1) := by decide +kernel
theorem dX11_value_6 : decode cX11_value 6 = .ok (.invokevirtual 237, 3) := by decide +kernel
theorem dX11_value_9 : decode cX11_value 9 = .ok (.ifCond .ne 13, 3) := by decide +kernel
theorem dX11_value_12 : decode cX11_value 12 = .ok (.new 241, 3) := by decide +kernel
theorem dX11_value_15 : decode cX11_value 15 = .ok (.dup, 1) := by decide +kernel
theorem dX11_value_16 : decode cX11_value 16 = .ok (.ldc 243, 2) := by decide +kernel
theorem dX11_value_18 : decode cX11_value 18 = .ok (.invokespecial 245, 3) := by decide +kernel
theorem dX11_value_21 : decode cX11_value 21 = .ok (.athrow, 1) := by decide +kernel
theorem dX11_value_22 : decode cX11_value 22 = .ok (.aload_n 0, 1) := by decide +kernel
theorem dX11_value_23 : decode cX11_value 23 = .ok (.getfield 66, 3) := by decide +kernel
theorem dX11_value_26 : decode cX11_value 26 = .ok (.iload_n 1, 1) := by decide +kernel
theorem dX11_value_27 : decode cX11_value 27 = .ok (.iload_n 2, 1) := by decide +kernel
theorem dX11_value_28 : decode cX11_value 28 = .ok (.invokevirtual 248, 3) := by decide +kernel
theorem dX11_value_31 : decode cX11_value 31 = .ok (.l2i, 1) := by decide +kernel
theorem dX11_value_32 : decode cX11_value 32 = .ok (.ireturn, 1) := by decide +kernel
theorem dX11_draw_0 : decode cX11_draw 0 = .ok (.aload_n 0, 1) := by decide +kernel
theorem dX11_draw_1 : decode cX11_draw 1 = .ok (.getfield 66, 3) := by decide +kernel
theorem dX11_draw_4 : decode cX11_draw 4 = .ok (.iload_n 1, 1) := by decide +kernel
theorem dX11_draw_5 : decode cX11_draw 5 = .ok (.invokevirtual 252, 3) := by decide +kernel
theorem dX11_draw_8 : decode cX11_draw 8 = .ok (.ireturn, 1) := by decide +kernel
theorem dX11_tries_0 : decode cX11_tries 0 = .ok (.aload_n 0, 1) := by decide +kernel
theorem dX11_tries_1 : decode cX11_tries 1 = .ok (.iload_n 1, 1) := by decide +kernel
theorem dX11_tries_2 : decode cX11_tries 2 = .ok (.invokevirtual 205, 3) := by decide +kernel
theorem dX11_tries_5 : decode cX11_tries 5 = .ok (.astore_n 3, 1) := by decide +kernel
theorem dX11_tries_6 : decode cX11_tries 6 = .ok (.aload_n 3, 1) := by decide +kernel
theorem dX11_tries_7 : decode cX11_tries 7 = .ok (.ifnull 15, 3) := by decide +kernel
theorem dX11_tries_10 : decode cX11_tries 10 = .ok (.iload_n 2, 1) := by decide +kernel
theorem dX11_tries_11 : decode cX11_tries 11 = .ok (.iconst 1, 1) := by decide +kernel
theorem dX11_tries_12 : decode cX11_tries 12 = .ok (.if_icmp .lt 10, 3) := by decide +kernel
theorem dX11_tries_15 : decode cX11_tries 15 = .ok (.iload_n 2, 1) := by decide +kernel
theorem dX11_tries_16 : decode cX11_tries 16 = .ok (.sipush 200, 3) := by decide +kernel
theorem dX11_tries_19 : decode cX11_tries 19 = .ok (.if_icmp .le 5, 3) := by decide +kernel
theorem dX11_tries_22 : decode cX11_tries 22 = .ok (.iconst (-1), 1) := by decide +kernel
theorem dX11_tries_23 : decode cX11_tries 23 = .ok (.ireturn, 1) := by decide +kernel
theorem dX11_tries_24 : decode cX11_tries 24 = .ok (.iconst 0, 1) := by decide +kernel
theorem dX11_tries_25 : decode cX11_tries 25 = .ok (.istore 4, 2) := by decide +kernel
theorem dX11_tries_27 : decode cX11_tries 27 = .ok (.iload 4, 2) := by decide +kernel
theorem dX11_tries_29 : decode cX11_tries 29 = .ok (.iload_n 2, 1) := by decide +kernel
theorem dX11_tries_30 : decode cX11_tries 30 = .ok (.if_icmp .ge 25, 3) := by decide +kernel
theorem dX11_tries_33 : decode cX11_tries 33 = .ok (.aload_n 0, 1) := by decide +kernel
theorem dX11_tries_34 : decode cX11_tries 34 = .ok (.getfield 70, 3) := by decide +kernel
theorem dX11_tries_37 : decode cX11_tries 37 = .ok (.aload_n 3, 1) := by decide +kernel
theorem dX11_tries_38 : decode cX11_tries 38 = .ok (.iload 4, 2) := by decide +kernel
theorem dX11_tries_40 : decode cX11_tries 40 = .ok (.invokevirtual 216, 3) := by decide +kernel
theorem dX11_tries_43 : decode cX11_tries 43 = .ok (.ifCond .eq 6, 3) := by decide +kernel
theorem dX11_tries_46 : decode cX11_tries 46 = .ok (.iload 4, 2) := by decide +kernel
theorem dX11_tries_48 : decode cX11_tries 48 = .ok (.ireturn, 1) := by decide +kernel
theorem dX11_tries_49 : decode cX11_tries 49 = .ok (.iinc 4 1, 3) := by decide +kernel
theorem dX11_tries_52 : decode cX11_tries 52 = .ok (.goto (-25), 3) := by decide +kernel
theorem dX11_tries_55 : decode cX11_tries 55 = .ok (.iconst (-1), 1) := by decide +kernel
theorem dX11_tries_56 : decode cX11_tries 56 = .ok (.ireturn, 1) := by decide +kernel
theorem dX11_spent_0 : decode cX11_spent 0 = .ok (.aload_n 0, 1) := by decide +kernel
theorem dX11_spent_1 : decode cX11_spent 1 = .ok (.iload_n 1, 1) := by decide +kernel
theorem dX11_spent_2 : decode cX11_spent 2 = .ok (.invokevirtual 205, 3) := by decide +kernel
theorem dX11_spent_5 : decode cX11_spent 5 = .ok (.astore_n 3, 1) := by decide +kernel
theorem dX11_spent_6 : decode cX11_spent 6 = .ok (.aload_n 3, 1) := by decide +kernel
theorem dX11_spent_7 : decode cX11_spent 7 = .ok (.ifnull 12, 3) := by decide +kernel
theorem dX11_spent_10 : decode cX11_spent 10 = .ok (.iload_n 2, 1) := by decide +kernel
theorem dX11_spent_11 : decode cX11_spent 11 = .ok (.ifCond .lt 8, 3) := by decide +kernel
theorem dX11_spent_14 : decode cX11_spent 14 = .ok (.iload_n 2, 1) := by decide +kernel
theorem dX11_spent_15 : decode cX11_spent 15 = .ok (.iconst 1, 1) := by decide +kernel
theorem dX11_spent_16 : decode cX11_spent 16 = .ok (.if_icmp .le 5, 3) := by decide +kernel
theorem dX11_spent_19 : decode cX11_spent 19 = .ok (.iconst (-1), 1) := by decide +kernel
theorem dX11_spent_20 : decode cX11_spent 20 = .ok (.ireturn, 1) := by decide +kernel
theorem dX11_spent_21 : decode cX11_spent 21 = .ok (.aload_n 3, 1) := by decide +kernel
theorem dX11_spent_22 : decode cX11_spent 22 = .ok (.getfield 255, 3) := by decide +kernel
theorem dX11_spent_25 : decode cX11_spent 25 = .ok (.astore 4, 2) := by decide +kernel
theorem dX11_spent_27 : decode cX11_spent 27 = .ok (.iload_n 2, 1) := by decide +kernel
theorem dX11_spent_28 : decode cX11_spent 28 = .ok (.iconst 1, 1) := by decide +kernel
theorem dX11_spent_29 : decode cX11_spent 29 = .ok (.if_icmp .ne 15, 3) := by decide +kernel
theorem dX11_spent_32 : decode cX11_spent 32 = .ok (.aload 4, 2) := by decide +kernel
theorem dX11_spent_34 : decode cX11_spent 34 = .ok (.getfield 153, 3) := by decide +kernel
theorem dX11_spent_37 : decode cX11_spent 37 = .ok (.aload 4, 2) := by decide +kernel
theorem dX11_spent_39 : decode cX11_spent 39 = .ok (.getfield 150, 3) := by decide +kernel
theorem dX11_spent_42 : decode cX11_spent 42 = .ok (.ishl, 1) := by decide +kernel
theorem dX11_spent_43 : decode cX11_spent 43 = .ok (.ireturn, 1) := by decide +kernel
theorem dX11_spent_44 : decode cX11_spent 44 = .ok (.aload_n 0, 1) := by decide +kernel
theorem dX11_spent_45 : decode cX11_spent 45 = .ok (.getfield 57, 3) := by decide +kernel
theorem dX11_spent_48 : decode cX11_spent 48 = .ok (.aload 4, 2) := by decide +kernel
theorem dX11_spent_50 : decode cX11_spent 50 = .ok (.aload_n 3, 1) := by decide +kernel
theorem dX11_spent_51 : decode cX11_spent 51 = .ok (.getfield 259, 3) := by decide +kernel
theorem dX11_spent_54 : decode cX11_spent 54 = .ok (.aload_n 3, 1) := by decide +kernel
theorem dX11_spent_55 : decode cX11_spent 55 = .ok (.getfield 263, 3) := by decide +kernel
theorem dX11_spent_58 : decode cX11_spent 58 = .ok (.invokevirtual 266, 3) := by decide +kernel
theorem dX11_spent_61 : decode cX11_spent 61 = .ok (.aload_n 0, 1) := by decide +kernel
theorem dX11_spent_62 : decode cX11_spent 62 = .ok (.getfield 57, 3) := by decide +kernel
theorem dX11_spent_65 : decode cX11_spent 65 = .ok (.invokevirtual 270, 3) := by decide +kernel
theorem dX11_spent_68 : decode cX11_spent 68 = .ok (.ifCond .eq 11, 3) := by decide +kernel
theorem dX11_spent_71 : decode cX11_spent 71 = .ok (.aload 4, 2) := by decide +kernel
theorem dX11_spent_73 : decode cX11_spent 73 = .ok (.getfield 153, 3) := by decide +kernel
theorem dX11_spent_76 : decode cX11_spent 76 = .ok (.goto 4, 3) := by decide +kernel
theorem dX11_spent_79 : decode cX11_spent 79 = .ok (.iconst 0, 1) := by decide +kernel
theorem dX11_spent_80 : decode cX11_spent 80 = .ok (.istore 5, 2) := by decide +kernel
theorem dX11_spent_82 : decode cX11_spent 82 = .ok (.iconst 0, 1) := by decide +kernel
theorem dX11_spent_83 : decode cX11_spent 83 = .ok (.istore 6, 2) := by decide +kernel
theorem dX11_spent_85 : decode cX11_spent 85 = .ok (.iload 6, 2) := by decide +kernel
theorem dX11_spent_87 : decode cX11_spent 87 = .ok (.aload 4, 2) := by decide +kernel
theorem dX11_spent_89 : decode cX11_spent 89 = .ok (.getfield 150, 3) := by decide +kernel
theorem dX11_spent_92 : decode cX11_spent 92 = .ok (.if_icmp .ge 50, 3) := by decide +kernel
theorem dX11_spent_95 : decode cX11_spent 95 = .ok (.aload 4, 2) := by decide +kernel
theorem dX11_spent_97 : decode cX11_spent 97 = .ok (.iload 6, 2) := by decide +kernel
theorem dX11_spent_99 : decode cX11_spent 99 = .ok (.invokevirtual 156, 3) := by decide +kernel
theorem dX11_spent_102 : decode cX11_spent 102 = .ok (.iconst 1, 1) := by decide +kernel
theorem dX11_spent_103 : decode cX11_spent 103 = .ok (.iadd, 1) := by decide +kernel
theorem dX11_spent_104 : decode cX11_spent 104 = .ok (.istore 7, 2) := by decide +kernel
theorem dX11_spent_106 : decode cX11_spent 106 = .ok (.iload 5, 2) := by decide +kernel
theorem dX11_spent_108 : decode cX11_spent 108 = .ok (.iconst 2, 1) := by decide +kernel
theorem dX11_spent_109 : decode cX11_spent 109 = .ok (.iload 7, 2) := by decide +kernel
theorem dX11_spent_111 : decode cX11_spent 111 = .ok (.imul, 1) := by decide +kernel
theorem dX11_spent_112 : decode cX11_spent 112 = .ok (.iload 7, 2) := by decide +kernel
theorem dX11_spent_114 : decode cX11_spent 114 = .ok (.imul, 1) := by decide +kernel
theorem dX11_spent_115 : decode cX11_spent 115 = .ok (.aload_n 0, 1) := by decide +kernel
theorem dX11_spent_116 : decode cX11_spent 116 = .ok (.getfield 57, 3) := by decide +kernel
theorem dX11_spent_119 : decode cX11_spent 119 = .ok (.iload 6, 2) := by decide +kernel
theorem dX11_spent_121 : decode cX11_spent 121 = .ok (.invokevirtual 274, 3) := by decide +kernel
theorem dX11_spent_124 : decode cX11_spent 124 = .ok (.ifCond .eq 7, 3) := by decide +kernel
theorem dX11_spent_127 : decode cX11_spent 127 = .ok (.iconst 1, 1) := by decide +kernel
theorem dX11_spent_128 : decode cX11_spent 128 = .ok (.goto 4, 3) := by decide +kernel
theorem dX11_spent_131 : decode cX11_spent 131 = .ok (.iconst 0, 1) := by decide +kernel
theorem dX11_spent_132 : decode cX11_spent 132 = .ok (.iadd, 1) := by decide +kernel
theorem dX11_spent_133 : decode cX11_spent 133 = .ok (.iadd, 1) := by decide +kernel
theorem dX11_spent_134 : decode cX11_spent 134 = .ok (.istore 5, 2) := by decide +kernel
theorem dX11_spent_136 : decode cX11_spent 136 = .ok (.iinc 6 1, 3) := by decide +kernel
theorem dX11_spent_139 : decode cX11_spent 139 = .ok (.goto (-54), 3) := by decide +kernel
theorem dX11_spent_142 : decode cX11_spent 142 = .ok (.iload 5, 2) := by decide +kernel
theorem dX11_spent_144 : decode cX11_spent 144 = .ok (.ireturn, 1) := by decide +kernel
theorem dX11_odds_0 : decode cX11_odds 0 = .ok (.aload_n 0, 1) := by decide +kernel
theorem dX11_odds_1 : decode cX11_odds 1 = .ok (.iload_n 1, 1) := by decide +kernel
theorem dX11_odds_2 : decode cX11_odds 2 = .ok (.invokevirtual 205, 3) := by decide +kernel
theorem dX11_odds_5 : decode cX11_odds 5 = .ok (.astore 4, 2) := by decide +kernel
theorem dX11_odds_7 : decode cX11_odds 7 = .ok (.aload 4, 2) := by decide +kernel
theorem dX11_odds_9 : decode cX11_odds 9 = .ok (.ifnull 19, 3) := by decide +kernel
theorem dX11_odds_12 : decode cX11_odds 12 = .ok (.iload_n 2, 1) := by decide +kernel
theorem dX11_odds_13 : decode cX11_odds 13 = .ok (.invokestatic 209, 3) := by decide +kernel
theorem dX11_odds_16 : decode cX11_odds 16 = .ok (.ifCond .eq 12, 3) := by decide +kernel
theorem dX11_odds_19 : decode cX11_odds 19 = .ok (.iload_n 3, 1) := by decide +kernel
theorem dX11_odds_20 : decode cX11_odds 20 = .ok (.ifCond .lt 8, 3) := by decide +kernel
theorem dX11_odds_23 : decode cX11_odds 23 = .ok (.iload_n 3, 1) := by decide +kernel
theorem dX11_odds_24 : decode cX11_odds 24 = .ok (.iconst 1, 1) := by decide +kernel
theorem dX11_odds_25 : decode cX11_odds 25 = .ok (.if_icmp .le 5, 3) := by decide +kernel
theorem dX11_odds_28 : decode cX11_odds 28 = .ok (.iconst (-1), 1) := by decide +kernel
theorem dX11_odds_29 : decode cX11_odds 29 = .ok (.ireturn, 1) := by decide +kernel
theorem dX11_odds_30 : decode cX11_odds 30 = .ok (.aload_n 0, 1) := by decide +kernel
theorem dX11_odds_31 : decode cX11_odds 31 = .ok (.getfield 57, 3) := by decide +kernel
theorem dX11_odds_34 : decode cX11_odds 34 = .ok (.aload 4, 2) := by decide +kernel
theorem dX11_odds_36 : decode cX11_odds 36 = .ok (.getfield 255, 3) := by decide +kernel
theorem dX11_odds_39 : decode cX11_odds 39 = .ok (.aload 4, 2) := by decide +kernel
theorem dX11_odds_41 : decode cX11_odds 41 = .ok (.getfield 259, 3) := by decide +kernel
theorem dX11_odds_44 : decode cX11_odds 44 = .ok (.aload 4, 2) := by decide +kernel
theorem dX11_odds_46 : decode cX11_odds 46 = .ok (.getfield 263, 3) := by decide +kernel
theorem dX11_odds_49 : decode cX11_odds 49 = .ok (.invokevirtual 266, 3) := by decide +kernel
theorem dX11_odds_52 : decode cX11_odds 52 = .ok (.aload_n 0, 1) := by decide +kernel
theorem dX11_odds_53 : decode cX11_odds 53 = .ok (.getfield 57, 3) := by decide +kernel
theorem dX11_odds_56 : decode cX11_odds 56 = .ok (.invokevirtual 277, 3) := by decide +kernel
theorem dX11_odds_59 : decode cX11_odds 59 = .ok (.istore 5, 2) := by decide +kernel
theorem dX11_odds_61 : decode cX11_odds 61 = .ok (.iload 5, 2) := by decide +kernel
theorem dX11_odds_63 : decode cX11_odds 63 = .ok (.iconst (-1), 1) := by decide +kernel
theorem dX11_odds_64 : decode cX11_odds 64 = .ok (.if_icmp .eq 8, 3) := by decide +kernel
theorem dX11_odds_67 : decode cX11_odds 67 = .ok (.iload_n 3, 1) := by decide +kernel
theorem dX11_odds_68 : decode cX11_odds 68 = .ok (.iconst 1, 1) := by decide +kernel
theorem dX11_odds_69 : decode cX11_odds 69 = .ok (.if_icmp .ne 6, 3) := by decide +kernel
theorem dX11_odds_72 : decode cX11_odds 72 = .ok (.iload 5, 2) := by decide +kernel
theorem dX11_odds_74 : decode cX11_odds 74 = .ok (.ireturn, 1) := by decide +kernel
theorem dX11_odds_75 : decode cX11_odds 75 = .ok (.aload_n 0, 1) := by decide +kernel
theorem dX11_odds_76 : decode cX11_odds 76 = .ok (.getfield 70, 3) := by decide +kernel
theorem dX11_odds_79 : decode cX11_odds 79 = .ok (.aload 4, 2) := by decide +kernel
theorem dX11_odds_81 : decode cX11_odds 81 = .ok (.iload_n 2, 1) := by decide +kernel
theorem dX11_odds_82 : decode cX11_odds 82 = .ok (.invokevirtual 280, 3) := by decide +kernel
theorem dX11_odds_85 : decode cX11_odds 85 = .ok (.aload_n 0, 1) := by decide +kernel
theorem dX11_odds_86 : decode cX11_odds 86 = .ok (.getfield 70, 3) := by decide +kernel
theorem dX11_odds_89 : decode cX11_odds 89 = .ok (.aload 4, 2) := by decide +kernel
theorem dX11_odds_91 : decode cX11_odds 91 = .ok (.iconst 0, 1) := by decide +kernel
theorem dX11_odds_92 : decode cX11_odds 92 = .ok (.invokevirtual 284, 3) := by decide +kernel
theorem dX11_odds_95 : decode cX11_odds 95 = .ok (.ireturn, 1) := by decide +kernel
theorem dX11_best_0 : decode cX11_best 0 = .ok (.aload_n 0, 1) := by decide +kernel
theorem dX11_best_1 : decode cX11_best 1 = .ok (.iload_n 1, 1) := by decide +kernel
theorem dX11_best_2 : decode cX11_best 2 = .ok (.invokevirtual 205, 3) := by decide +kernel
theorem dX11_best_5 : decode cX11_best 5 = .ok (.astore_n 3, 1) := by decide +kernel
theorem dX11_best_6 : decode cX11_best 6 = .ok (.aload_n 3, 1) := by decide +kernel
theorem dX11_best_7 : decode cX11_best 7 = .ok (.ifnonnull 7, 3) := by decide +kernel
theorem dX11_best_10 : decode cX11_best 10 = .ok (.ldc2_w 288, 3) := by decide +kernel
theorem dX11_best_13 : decode cX11_best 13 = .ok (.lreturn, 1) := by decide +kernel
theorem dX11_best_14 : decode cX11_best 14 = .ok (.aload_n 0, 1) := by decide +kernel
theorem dX11_best_15 : decode cX11_best 15 = .ok (.getfield 57, 3) := by decide +kernel
theorem dX11_best_18 : decode cX11_best 18 = .ok (.aload_n 3, 1) := by decide +kernel
theorem dX11_best_19 : decode cX11_best 19 = .ok (.getfield 255, 3) := by decide +kernel
theorem dX11_best_22 : decode cX11_best 22 = .ok (.aload_n 3, 1) := by decide +kernel
theorem dX11_best_23 : decode cX11_best 23 = .ok (.getfield 259, 3) := by decide +kernel
theorem dX11_best_26 : decode cX11_best 26 = .ok (.aload_n 3, 1) := by decide +kernel
theorem dX11_best_27 : decode cX11_best 27 = .ok (.getfield 263, 3) := by decide +kernel
theorem dX11_best_30 : decode cX11_best 30 = .ok (.invokevirtual 266, 3) := by decide +kernel
theorem dX11_best_33 : decode cX11_best 33 = .ok (.aload_n 0, 1) := by decide +kernel
theorem dX11_best_34 : decode cX11_best 34 = .ok (.getfield 57, 3) := by decide +kernel
theorem dX11_best_37 : decode cX11_best 37 = .ok (.invokevirtual 290, 3) := by decide +kernel
theorem dX11_best_40 : decode cX11_best 40 = .ok (.ifCond .eq 14, 3) := by decide +kernel
theorem dX11_best_43 : decode cX11_best 43 = .ok (.aload_n 0, 1) := by decide +kernel
theorem dX11_best_44 : decode cX11_best 44 = .ok (.getfield 57, 3) := by decide +kernel
theorem dX11_best_47 : decode cX11_best 47 = .ok (.iload_n 2, 1) := by decide +kernel
theorem dX11_best_48 : decode cX11_best 48 = .ok (.invokevirtual 293, 3) := by decide +kernel
theorem dX11_best_51 : decode cX11_best 51 = .ok (.goto 6, 3) := by decide +kernel
theorem dX11_best_54 : decode cX11_best 54 = .ok (.ldc2_w 288, 3) := by decide +kernel
theorem dX11_best_57 : decode cX11_best 57 = .ok (.lreturn, 1) := by decide +kernel
theorem dX11_bound_0 : decode cX11_bound 0 = .ok (.aload_n 0, 1) := by decide +kernel
theorem dX11_bound_1 : decode cX11_bound 1 = .ok (.iload_n 1, 1) := by decide +kernel
theorem dX11_bound_2 : decode cX11_bound 2 = .ok (.invokevirtual 205, 3) := by decide +kernel
theorem dX11_bound_5 : decode cX11_bound 5 = .ok (.astore_n 3, 1) := by decide +kernel
theorem dX11_bound_6 : decode cX11_bound 6 = .ok (.aload_n 3, 1) := by decide +kernel
theorem dX11_bound_7 : decode cX11_bound 7 = .ok (.ifnonnull 7, 3) := by decide +kernel
theorem dX11_bound_10 : decode cX11_bound 10 = .ok (.ldc2_w 288, 3) := by decide +kernel
theorem dX11_bound_13 : decode cX11_bound 13 = .ok (.lreturn, 1) := by decide +kernel
theorem dX11_bound_14 : decode cX11_bound 14 = .ok (.aload_n 0, 1) := by decide +kernel
theorem dX11_bound_15 : decode cX11_bound 15 = .ok (.getfield 57, 3) := by decide +kernel
theorem dX11_bound_18 : decode cX11_bound 18 = .ok (.aload_n 3, 1) := by decide +kernel
theorem dX11_bound_19 : decode cX11_bound 19 = .ok (.getfield 255, 3) := by decide +kernel
theorem dX11_bound_22 : decode cX11_bound 22 = .ok (.aload_n 3, 1) := by decide +kernel
theorem dX11_bound_23 : decode cX11_bound 23 = .ok (.getfield 259, 3) := by decide +kernel
theorem dX11_bound_26 : decode cX11_bound 26 = .ok (.aload_n 3, 1) := by decide +kernel
theorem dX11_bound_27 : decode cX11_bound 27 = .ok (.getfield 263, 3) := by decide +kernel
theorem dX11_bound_30 : decode cX11_bound 30 = .ok (.invokevirtual 266, 3) := by decide +kernel
theorem dX11_bound_33 : decode cX11_bound 33 = .ok (.aload_n 0, 1) := by decide +kernel
theorem dX11_bound_34 : decode cX11_bound 34 = .ok (.getfield 57, 3) := by decide +kernel
theorem dX11_bound_37 : decode cX11_bound 37 = .ok (.invokevirtual 297, 3) := by decide +kernel
theorem dX11_bound_40 : decode cX11_bound 40 = .ok (.ifCond .eq 14, 3) := by decide +kernel
theorem dX11_bound_43 : decode cX11_bound 43 = .ok (.aload_n 0, 1) := by decide +kernel
theorem dX11_bound_44 : decode cX11_bound 44 = .ok (.getfield 57, 3) := by decide +kernel
theorem dX11_bound_47 : decode cX11_bound 47 = .ok (.iload_n 2, 1) := by decide +kernel
theorem dX11_bound_48 : decode cX11_bound 48 = .ok (.invokevirtual 293, 3) := by decide +kernel
theorem dX11_bound_51 : decode cX11_bound 51 = .ok (.goto 6, 3) := by decide +kernel
theorem dX11_bound_54 : decode cX11_bound 54 = .ok (.ldc2_w 288, 3) := by decide +kernel
theorem dX11_bound_57 : decode cX11_bound 57 = .ok (.lreturn, 1) := by decide +kernel
theorem dX11_roots_0 : decode cX11_roots 0 = .ok (.aload_n 0, 1) := by decide +kernel
theorem dX11_roots_1 : decode cX11_roots 1 = .ok (.iload_n 1, 1) := by decide +kernel
theorem dX11_roots_2 : decode cX11_roots 2 = .ok (.invokevirtual 205, 3) := by decide +kernel
theorem dX11_roots_5 : decode cX11_roots 5 = .ok (.astore_n 3, 1) := by decide +kernel
theorem dX11_roots_6 : decode cX11_roots 6 = .ok (.aload_n 3, 1) := by decide +kernel
theorem dX11_roots_7 : decode cX11_roots 7 = .ok (.ifnull 18, 3) := by decide +kernel
theorem dX11_roots_10 : decode cX11_roots 10 = .ok (.iload_n 2, 1) := by decide +kernel
theorem dX11_roots_11 : decode cX11_roots 11 = .ok (.ifCond .lt 14, 3) := by decide +kernel
theorem dX11_roots_14 : decode cX11_roots 14 = .ok (.iload_n 2, 1) := by decide +kernel
theorem dX11_roots_15 : decode cX11_roots 15 = .ok (.aload_n 3, 1) := by decide +kernel
theorem dX11_roots_16 : decode cX11_roots 16 = .ok (.getfield 255, 3) := by decide +kernel
theorem dX11_roots_19 : decode cX11_roots 19 = .ok (.getfield 150, 3) := by decide +kernel
theorem dX11_roots_22 : decode cX11_roots 22 = .ok (.if_icmp .lt 5, 3) := by decide +kernel
theorem dX11_roots_25 : decode cX11_roots 25 = .ok (.iconst (-1), 1) := by decide +kernel
theorem dX11_roots_26 : decode cX11_roots 26 = .ok (.ireturn, 1) := by decide +kernel
theorem dX11_roots_27 : decode cX11_roots 27 = .ok (.aload_n 0, 1) := by decide +kernel
theorem dX11_roots_28 : decode cX11_roots 28 = .ok (.getfield 57, 3) := by decide +kernel
theorem dX11_roots_31 : decode cX11_roots 31 = .ok (.aload_n 3, 1) := by decide +kernel
theorem dX11_roots_32 : decode cX11_roots 32 = .ok (.getfield 255, 3) := by decide +kernel
theorem dX11_roots_35 : decode cX11_roots 35 = .ok (.aload_n 3, 1) := by decide +kernel
theorem dX11_roots_36 : decode cX11_roots 36 = .ok (.getfield 259, 3) := by decide +kernel
theorem dX11_roots_39 : decode cX11_roots 39 = .ok (.aload_n 3, 1) := by decide +kernel
theorem dX11_roots_40 : decode cX11_roots 40 = .ok (.getfield 263, 3) := by decide +kernel
theorem dX11_roots_43 : decode cX11_roots 43 = .ok (.invokevirtual 266, 3) := by decide +kernel
theorem dX11_roots_46 : decode cX11_roots 46 = .ok (.aload_n 0, 1) := by decide +kernel
theorem dX11_roots_47 : decode cX11_roots 47 = .ok (.getfield 57, 3) := by decide +kernel
theorem dX11_roots_50 : decode cX11_roots 50 = .ok (.invokevirtual 290, 3) := by decide +kernel
theorem dX11_roots_53 : decode cX11_roots 53 = .ok (.ifCond .eq 14, 3) := by decide +kernel
theorem dX11_roots_56 : decode cX11_roots 56 = .ok (.aload_n 0, 1) := by decide +kernel
theorem dX11_roots_57 : decode cX11_roots 57 = .ok (.getfield 57, 3) := by decide +kernel
theorem dX11_roots_60 : decode cX11_roots 60 = .ok (.iload_n 2, 1) := by decide +kernel
theorem dX11_roots_61 : decode cX11_roots 61 = .ok (.invokevirtual 300, 3) := by decide +kernel
theorem dX11_roots_64 : decode cX11_roots 64 = .ok (.goto 4, 3) := by decide +kernel
theorem dX11_roots_67 : decode cX11_roots 67 = .ok (.iconst (-1), 1) := by decide +kernel
theorem dX11_roots_68 : decode cX11_roots 68 = .ok (.ireturn, 1) := by decide +kernel
theorem dX11_small_0 : decode cX11_small 0 = .ok (.aload_n 0, 1) := by decide +kernel
theorem dX11_small_1 : decode cX11_small 1 = .ok (.iload_n 1, 1) := by decide +kernel
theorem dX11_small_2 : decode cX11_small 2 = .ok (.invokevirtual 146, 3) := by decide +kernel
theorem dX11_small_5 : decode cX11_small 5 = .ok (.astore 4, 2) := by decide +kernel
theorem dX11_small_7 : decode cX11_small 7 = .ok (.aload_n 0, 1) := by decide +kernel
theorem dX11_small_8 : decode cX11_small 8 = .ok (.getfield 80, 3) := by decide +kernel
theorem dX11_small_11 : decode cX11_small 11 = .ok (.iload_n 2, 1) := by decide +kernel
theorem dX11_small_12 : decode cX11_small 12 = .ok (.invokestatic 193, 3) := by decide +kernel
theorem dX11_small_15 : decode cX11_small 15 = .ok (.astore 5, 2) := by decide +kernel
theorem dX11_small_17 : decode cX11_small 17 = .ok (.aload 4, 2) := by decide +kernel
theorem dX11_small_19 : decode cX11_small 19 = .ok (.ifnull 20, 3) := by decide +kernel
theorem dX11_small_22 : decode cX11_small 22 = .ok (.aload 5, 2) := by decide +kernel
theorem dX11_small_24 : decode cX11_small 24 = .ok (.ifnull 15, 3) := by decide +kernel
theorem dX11_small_27 : decode cX11_small 27 = .ok (.iload_n 3, 1) := by decide +kernel
theorem dX11_small_28 : decode cX11_small 28 = .ok (.iconst 1, 1) := by decide +kernel
theorem dX11_small_29 : decode cX11_small 29 = .ok (.if_icmp .lt 10, 3) := by decide +kernel
theorem dX11_small_32 : decode cX11_small 32 = .ok (.iload_n 3, 1) := by decide +kernel
theorem dX11_small_33 : decode cX11_small 33 = .ok (.ldc_w 303, 3) := by decide +kernel
theorem dX11_small_36 : decode cX11_small 36 = .ok (.if_icmp .le 5, 3) := by decide +kernel
theorem dX11_small_39 : decode cX11_small 39 = .ok (.iconst (-1), 1) := by decide +kernel
theorem dX11_small_40 : decode cX11_small 40 = .ok (.ireturn, 1) := by decide +kernel
theorem dX11_small_41 : decode cX11_small 41 = .ok (.iconst 2, 1) := by decide +kernel
theorem dX11_small_42 : decode cX11_small 42 = .ok (.aload 4, 2) := by decide +kernel
theorem dX11_small_44 : decode cX11_small 44 = .ok (.invokevirtual 197, 3) := by decide +kernel
theorem dX11_small_47 : decode cX11_small 47 = .ok (.invokestatic 304, 3) := by decide +kernel
theorem dX11_small_50 : decode cX11_small 50 = .ok (.iconst 1, 1) := by decide +kernel
theorem dX11_small_51 : decode cX11_small 51 = .ok (.iadd, 1) := by decide +kernel
theorem dX11_small_52 : decode cX11_small 52 = .ok (.istore 6, 2) := by decide +kernel
theorem dX11_small_54 : decode cX11_small 54 = .ok (.iload 6, 2) := by decide +kernel
theorem dX11_small_56 : decode cX11_small 56 = .ok (.sipush 1000, 3) := by decide +kernel
theorem dX11_small_59 : decode cX11_small 59 = .ok (.if_icmp .gt 54, 3) := by decide +kernel
theorem dX11_small_62 : decode cX11_small 62 = .ok (.iload 6, 2) := by decide +kernel
theorem dX11_small_64 : decode cX11_small 64 = .ok (.invokestatic 167, 3) := by decide +kernel
theorem dX11_small_67 : decode cX11_small 67 = .ok (.ifCond .eq 40, 3) := by decide +kernel
theorem dX11_small_70 : decode cX11_small 70 = .ok (.aload_n 0, 1) := by decide +kernel
theorem dX11_small_71 : decode cX11_small 71 = .ok (.getfield 57, 3) := by decide +kernel
theorem dX11_small_74 : decode cX11_small 74 = .ok (.aload 4, 2) := by decide +kernel
theorem dX11_small_76 : decode cX11_small 76 = .ok (.aload 5, 2) := by decide +kernel
theorem dX11_small_78 : decode cX11_small 78 = .ok (.iload 6, 2) := by decide +kernel
theorem dX11_small_80 : decode cX11_small 80 = .ok (.invokevirtual 266, 3) := by decide +kernel
theorem dX11_small_83 : decode cX11_small 83 = .ok (.aload_n 0, 1) := by decide +kernel
theorem dX11_small_84 : decode cX11_small 84 = .ok (.getfield 57, 3) := by decide +kernel
theorem dX11_small_87 : decode cX11_small 87 = .ok (.invokevirtual 290, 3) := by decide +kernel
theorem dX11_small_90 : decode cX11_small 90 = .ok (.ifCond .eq 17, 3) := by decide +kernel
theorem dX11_small_93 : decode cX11_small 93 = .ok (.aload_n 0, 1) := by decide +kernel
theorem dX11_small_94 : decode cX11_small 94 = .ok (.getfield 57, 3) := by decide +kernel
theorem dX11_small_97 : decode cX11_small 97 = .ok (.iload_n 3, 1) := by decide +kernel
theorem dX11_small_98 : decode cX11_small 98 = .ok (.invokevirtual 310, 3) := by decide +kernel
theorem dX11_small_101 : decode cX11_small 101 = .ok (.ifCond .eq 6, 3) := by decide +kernel
theorem dX11_small_104 : decode cX11_small 104 = .ok (.iload 6, 2) := by decide +kernel
theorem dX11_small_106 : decode cX11_small 106 = .ok (.ireturn, 1) := by decide +kernel
theorem dX11_small_107 : decode cX11_small 107 = .ok (.iinc 6 1, 3) := by decide +kernel
theorem dX11_small_110 : decode cX11_small 110 = .ok (.goto (-56), 3) := by decide +kernel
theorem dX11_small_113 : decode cX11_small 113 = .ok (.iconst (-1), 1) := by decide +kernel
theorem dX11_small_114 : decode cX11_small 114 = .ok (.ireturn, 1) := by decide +kernel
theorem dX11_won_0 : decode cX11_won 0 = .ok (.aload_n 0, 1) := by decide +kernel
theorem dX11_won_1 : decode cX11_won 1 = .ok (.iload_n 1, 1) := by decide +kernel
theorem dX11_won_2 : decode cX11_won 2 = .ok (.invokevirtual 146, 3) := by decide +kernel
theorem dX11_won_5 : decode cX11_won 5 = .ok (.astore_n 3, 1) := by decide +kernel
theorem dX11_won_6 : decode cX11_won 6 = .ok (.aload_n 3, 1) := by decide +kernel
theorem dX11_won_7 : decode cX11_won 7 = .ok (.ifnull 10, 3) := by decide +kernel
theorem dX11_won_10 : decode cX11_won 10 = .ok (.iload_n 2, 1) := by decide +kernel
theorem dX11_won_11 : decode cX11_won 11 = .ok (.invokestatic 313, 3) := by decide +kernel
theorem dX11_won_14 : decode cX11_won 14 = .ok (.ifCond .ne 5, 3) := by decide +kernel
theorem dX11_won_17 : decode cX11_won 17 = .ok (.iconst (-1), 1) := by decide +kernel
theorem dX11_won_18 : decode cX11_won 18 = .ok (.ireturn, 1) := by decide +kernel
theorem dX11_won_19 : decode cX11_won 19 = .ok (.aload_n 0, 1) := by decide +kernel
theorem dX11_won_20 : decode cX11_won 20 = .ok (.getfield 48, 3) := by decide +kernel
theorem dX11_won_23 : decode cX11_won 23 = .ok (.aload_n 3, 1) := by decide +kernel
theorem dX11_won_24 : decode cX11_won 24 = .ok (.iload_n 2, 1) := by decide +kernel
theorem dX11_won_25 : decode cX11_won 25 = .ok (.ldc2_w 133, 3) := by decide +kernel
theorem dX11_won_28 : decode cX11_won 28 = .ok (.iconst 0, 1) := by decide +kernel
theorem dX11_won_29 : decode cX11_won 29 = .ok (.invokevirtual 316, 3) := by decide +kernel
theorem dX11_won_32 : decode cX11_won 32 = .ok (.l2i, 1) := by decide +kernel
theorem dX11_won_33 : decode cX11_won 33 = .ok (.ireturn, 1) := by decide +kernel
theorem dX11_game_0 : decode cX11_game 0 = .ok (.aload_n 0, 1) := by decide +kernel
theorem dX11_game_1 : decode cX11_game 1 = .ok (.iload_n 1, 1) := by decide +kernel
theorem dX11_game_2 : decode cX11_game 2 = .ok (.invokevirtual 146, 3) := by decide +kernel
theorem dX11_game_5 : decode cX11_game 5 = .ok (.astore 4, 2) := by decide +kernel
theorem dX11_game_7 : decode cX11_game 7 = .ok (.aload 4, 2) := by decide +kernel
theorem dX11_game_9 : decode cX11_game 9 = .ok (.ifnull 17, 3) := by decide +kernel
theorem dX11_game_12 : decode cX11_game 12 = .ok (.iload_n 2, 1) := by decide +kernel
theorem dX11_game_13 : decode cX11_game 13 = .ok (.invokestatic 313, 3) := by decide +kernel
theorem dX11_game_16 : decode cX11_game 16 = .ok (.ifCond .eq 10, 3) := by decide +kernel
theorem dX11_game_19 : decode cX11_game 19 = .ok (.iload_n 3, 1) := by decide +kernel
theorem dX11_game_20 : decode cX11_game 20 = .ok (.invokestatic 167, 3) := by decide +kernel
theorem dX11_game_23 : decode cX11_game 23 = .ok (.ifCond .ne 5, 3) := by decide +kernel
theorem dX11_game_26 : decode cX11_game 26 = .ok (.iconst (-1), 1) := by decide +kernel
theorem dX11_game_27 : decode cX11_game 27 = .ok (.ireturn, 1) := by decide +kernel
theorem dX11_game_28 : decode cX11_game 28 = .ok (.aload_n 0, 1) := by decide +kernel
theorem dX11_game_29 : decode cX11_game 29 = .ok (.iload_n 3, 1) := by decide +kernel
theorem dX11_game_30 : decode cX11_game 30 = .ok (.invokevirtual 171, 3) := by decide +kernel
theorem dX11_game_33 : decode cX11_game 33 = .ok (.aload_n 0, 1) := by decide +kernel
theorem dX11_game_34 : decode cX11_game 34 = .ok (.getfield 48, 3) := by decide +kernel
theorem dX11_game_37 : decode cX11_game 37 = .ok (.aload 4, 2) := by decide +kernel
theorem dX11_game_39 : decode cX11_game 39 = .ok (.iload_n 2, 1) := by decide +kernel
theorem dX11_game_40 : decode cX11_game 40 = .ok (.iload_n 3, 1) := by decide +kernel
theorem dX11_game_41 : decode cX11_game 41 = .ok (.i2l, 1) := by decide +kernel
theorem dX11_game_42 : decode cX11_game 42 = .ok (.aload_n 0, 1) := by decide +kernel
theorem dX11_game_43 : decode cX11_game 43 = .ok (.getfield 101, 3) := by decide +kernel
theorem dX11_game_46 : decode cX11_game 46 = .ok (.aload 4, 2) := by decide +kernel
theorem dX11_game_48 : decode cX11_game 48 = .ok (.getfield 150, 3) := by decide +kernel
theorem dX11_game_51 : decode cX11_game 51 = .ok (.invokestatic 320, 3) := by decide +kernel
theorem dX11_game_54 : decode cX11_game 54 = .ok (.invokevirtual 316, 3) := by decide +kernel
theorem dX11_game_57 : decode cX11_game 57 = .ok (.l2i, 1) := by decide +kernel
theorem dX11_game_58 : decode cX11_game 58 = .ok (.ireturn, 1) := by decide +kernel
theorem dX11_steep_0 : decode cX11_steep 0 = .ok (.aload_n 0, 1) := by decide +kernel
theorem dX11_steep_1 : decode cX11_steep 1 = .ok (.iload_n 1, 1) := by decide +kernel
theorem dX11_steep_2 : decode cX11_steep 2 = .ok (.invokevirtual 146, 3) := by decide +kernel
theorem dX11_steep_5 : decode cX11_steep 5 = .ok (.astore 5, 2) := by decide +kernel
theorem dX11_steep_7 : decode cX11_steep 7 = .ok (.aload 5, 2) := by decide +kernel
theorem dX11_steep_9 : decode cX11_steep 9 = .ok (.ifnull 29, 3) := by decide +kernel
theorem dX11_steep_12 : decode cX11_steep 12 = .ok (.iload_n 2, 1) := by decide +kernel
theorem dX11_steep_13 : decode cX11_steep 13 = .ok (.ifCond .lt 25, 3) := by decide +kernel
theorem dX11_steep_16 : decode cX11_steep 16 = .ok (.iload_n 2, 1) := by decide +kernel
theorem dX11_steep_17 : decode cX11_steep 17 = .ok (.aload 5, 2) := by decide +kernel
theorem dX11_steep_19 : decode cX11_steep 19 = .ok (.getfield 150, 3) := by decide +kernel
theorem dX11_steep_22 : decode cX11_steep 22 = .ok (.if_icmp .ge 16, 3) := by decide +kernel
theorem dX11_steep_25 : decode cX11_steep 25 = .ok (.iload_n 3, 1) := by decide +kernel
theorem dX11_steep_26 : decode cX11_steep 26 = .ok (.ifCond .lt 12, 3) := by decide +kernel
theorem dX11_steep_29 : decode cX11_steep 29 = .ok (.iload_n 3, 1) := by decide +kernel
theorem dX11_steep_30 : decode cX11_steep 30 = .ok (.aload 5, 2) := by decide +kernel
theorem dX11_steep_32 : decode cX11_steep 32 = .ok (.getfield 150, 3) := by decide +kernel
theorem dX11_steep_35 : decode cX11_steep 35 = .ok (.if_icmp .le 5, 3) := by decide +kernel
theorem dX11_steep_38 : decode cX11_steep 38 = .ok (.iconst (-1), 1) := by decide +kernel
theorem dX11_steep_39 : decode cX11_steep 39 = .ok (.ireturn, 1) := by decide +kernel
theorem dX11_steep_40 : decode cX11_steep 40 = .ok (.aload 5, 2) := by decide +kernel
theorem dX11_steep_42 : decode cX11_steep 42 = .ok (.iload_n 2, 1) := by decide +kernel
theorem dX11_steep_43 : decode cX11_steep 43 = .ok (.invokevirtual 156, 3) := by decide +kernel
theorem dX11_steep_46 : decode cX11_steep 46 = .ok (.istore 6, 2) := by decide +kernel
theorem dX11_steep_48 : decode cX11_steep 48 = .ok (.aload 5, 2) := by decide +kernel
theorem dX11_steep_50 : decode cX11_steep 50 = .ok (.getfield 150, 3) := by decide +kernel
theorem dX11_steep_53 : decode cX11_steep 53 = .ok (.iload_n 2, 1) := by decide +kernel
theorem dX11_steep_54 : decode cX11_steep 54 = .ok (.iconst 1, 1) := by decide +kernel
theorem dX11_steep_55 : decode cX11_steep 55 = .ok (.iadd, 1) := by decide +kernel
theorem dX11_steep_56 : decode cX11_steep 56 = .ok (.iload_n 3, 1) := by decide +kernel
theorem dX11_steep_57 : decode cX11_steep 57 = .ok (.invokestatic 304, 3) := by decide +kernel
theorem dX11_steep_60 : decode cX11_steep 60 = .ok (.isub, 1) := by decide +kernel
theorem dX11_steep_61 : decode cX11_steep 61 = .ok (.istore 7, 2) := by decide +kernel
theorem dX11_steep_63 : decode cX11_steep 63 = .ok (.iload 7, 2) := by decide +kernel
theorem dX11_steep_65 : decode cX11_steep 65 = .ok (.ifCond .le 8, 3) := by decide +kernel
theorem dX11_steep_68 : decode cX11_steep 68 = .ok (.iload 6, 2) := by decide +kernel
theorem dX11_steep_70 : decode cX11_steep 70 = .ok (.ifCond .ne 6, 3) := by decide +kernel
theorem dX11_steep_73 : decode cX11_steep 73 = .ok (.iload 6, 2) := by decide +kernel
theorem dX11_steep_75 : decode cX11_steep 75 = .ok (.ireturn, 1) := by decide +kernel
theorem dX11_steep_76 : decode cX11_steep 76 = .ok (.iload 4, 2) := by decide +kernel
theorem dX11_steep_78 : decode cX11_steep 78 = .ok (.ifCond .eq 7, 3) := by decide +kernel
theorem dX11_steep_81 : decode cX11_steep 81 = .ok (.iconst 2, 1) := by decide +kernel
theorem dX11_steep_82 : decode cX11_steep 82 = .ok (.goto 8, 3) := by decide +kernel
theorem dX11_steep_85 : decode cX11_steep 85 = .ok (.iload 6, 2) := by decide +kernel
theorem dX11_steep_87 : decode cX11_steep 87 = .ok (.iload 7, 2) := by decide +kernel
theorem dX11_steep_89 : decode cX11_steep 89 = .ok (.ishl, 1) := by decide +kernel
theorem dX11_steep_90 : decode cX11_steep 90 = .ok (.ireturn, 1) := by decide +kernel
theorem dX11_net_0 : decode cX11_net 0 = .ok (.aload_n 0, 1) := by decide +kernel
theorem dX11_net_1 : decode cX11_net 1 = .ok (.getfield 89, 3) := by decide +kernel
theorem dX11_net_4 : decode cX11_net 4 = .ok (.invokevirtual 121, 3) := by decide +kernel
theorem dX11_net_7 : decode cX11_net 7 = .ok (.bipush 12, 2) := by decide +kernel
theorem dX11_net_9 : decode cX11_net 9 = .ok (.if_icmp .ge 14, 3) := by decide +kernel
theorem dX11_net_12 : decode cX11_net 12 = .ok (.iload_n 1, 1) := by decide +kernel
theorem dX11_net_13 : decode cX11_net 13 = .ok (.iconst 2, 1) := by decide +kernel
theorem dX11_net_14 : decode cX11_net 14 = .ok (.if_icmp .lt 9, 3) := by decide +kernel
theorem dX11_net_17 : decode cX11_net 17 = .ok (.iload_n 1, 1) := by decide +kernel
theorem dX11_net_18 : decode cX11_net 18 = .ok (.bipush 6, 2) := by decide +kernel
theorem dX11_net_20 : decode cX11_net 20 = .ok (.if_icmp .le 5, 3) := by decide +kernel
theorem dX11_net_23 : decode cX11_net 23 = .ok (.iconst (-1), 1) := by decide +kernel
theorem dX11_net_24 : decode cX11_net 24 = .ok (.ireturn, 1) := by decide +kernel
theorem dX11_net_25 : decode cX11_net 25 = .ok (.iload_n 2, 1) := by decide +kernel
theorem dX11_net_26 : decode cX11_net 26 = .ok (.ifCond .lt 16, 3) := by decide +kernel
theorem dX11_net_29 : decode cX11_net 29 = .ok (.iload_n 2, 1) := by decide +kernel
theorem dX11_net_30 : decode cX11_net 30 = .ok (.iconst 1, 1) := by decide +kernel
theorem dX11_net_31 : decode cX11_net 31 = .ok (.iload_n 1, 1) := by decide +kernel
theorem dX11_net_32 : decode cX11_net 32 = .ok (.iload_n 1, 1) := by decide +kernel
theorem dX11_net_33 : decode cX11_net 33 = .ok (.iconst 1, 1) := by decide +kernel
theorem dX11_net_34 : decode cX11_net 34 = .ok (.isub, 1) := by decide +kernel
theorem dX11_net_35 : decode cX11_net 35 = .ok (.imul, 1) := by decide +kernel
theorem dX11_net_36 : decode cX11_net 36 = .ok (.iconst 2, 1) := by decide +kernel
theorem dX11_net_37 : decode cX11_net 37 = .ok (.idiv, 1) := by decide +kernel
theorem dX11_net_38 : decode cX11_net 38 = .ok (.ishl, 1) := by decide +kernel
theorem dX11_net_39 : decode cX11_net 39 = .ok (.if_icmp .lt 5, 3) := by decide +kernel
theorem dX11_net_42 : decode cX11_net 42 = .ok (.iconst (-1), 1) := by decide +kernel
theorem dX11_net_43 : decode cX11_net 43 = .ok (.ireturn, 1) := by decide +kernel
theorem dX11_net_44 : decode cX11_net 44 = .ok (.aload_n 0, 1) := by decide +kernel
theorem dX11_net_45 : decode cX11_net 45 = .ok (.getfield 89, 3) := by decide +kernel
theorem dX11_net_48 : decode cX11_net 48 = .ok (.new 96, 3) := by decide +kernel
theorem dX11_net_51 : decode cX11_net 51 = .ok (.dup, 1) := by decide +kernel
theorem dX11_net_52 : decode cX11_net 52 = .ok (.iload_n 1, 1) := by decide +kernel
theorem dX11_net_53 : decode cX11_net 53 = .ok (.iload_n 2, 1) := by decide +kernel
theorem dX11_net_54 : decode cX11_net 54 = .ok (.invokespecial 323, 3) := by decide +kernel
theorem dX11_net_57 : decode cX11_net 57 = .ok (.invokevirtual 142, 3) := by decide +kernel
theorem dX11_net_60 : decode cX11_net 60 = .ok (.pop, 1) := by decide +kernel
theorem dX11_net_61 : decode cX11_net 61 = .ok (.aload_n 0, 1) := by decide +kernel
theorem dX11_net_62 : decode cX11_net 62 = .ok (.getfield 89, 3) := by decide +kernel
theorem dX11_net_65 : decode cX11_net 65 = .ok (.invokevirtual 121, 3) := by decide +kernel
theorem dX11_net_68 : decode cX11_net 68 = .ok (.iconst 1, 1) := by decide +kernel
theorem dX11_net_69 : decode cX11_net 69 = .ok (.isub, 1) := by decide +kernel
theorem dX11_net_70 : decode cX11_net 70 = .ok (.ireturn, 1) := by decide +kernel
theorem dX11_alike_0 : decode cX11_alike 0 = .ok (.aload_n 0, 1) := by decide +kernel
theorem dX11_alike_1 : decode cX11_alike 1 = .ok (.iload_n 1, 1) := by decide +kernel
theorem dX11_alike_2 : decode cX11_alike 2 = .ok (.invokevirtual 326, 3) := by decide +kernel
theorem dX11_alike_5 : decode cX11_alike 5 = .ok (.astore_n 3, 1) := by decide +kernel
theorem dX11_alike_6 : decode cX11_alike 6 = .ok (.aload_n 0, 1) := by decide +kernel
theorem dX11_alike_7 : decode cX11_alike 7 = .ok (.iload_n 2, 1) := by decide +kernel
theorem dX11_alike_8 : decode cX11_alike 8 = .ok (.invokevirtual 326, 3) := by decide +kernel
theorem dX11_alike_11 : decode cX11_alike 11 = .ok (.astore 4, 2) := by decide +kernel
theorem dX11_alike_13 : decode cX11_alike 13 = .ok (.aload_n 3, 1) := by decide +kernel
theorem dX11_alike_14 : decode cX11_alike 14 = .ok (.ifnull 8, 3) := by decide +kernel
theorem dX11_alike_17 : decode cX11_alike 17 = .ok (.aload 4, 2) := by decide +kernel
theorem dX11_alike_19 : decode cX11_alike 19 = .ok (.ifnonnull 5, 3) := by decide +kernel
theorem dX11_alike_22 : decode cX11_alike 22 = .ok (.iconst (-1), 1) := by decide +kernel
theorem dX11_alike_23 : decode cX11_alike 23 = .ok (.ireturn, 1) := by decide +kernel
theorem dX11_alike_24 : decode cX11_alike 24 = .ok (.aload_n 3, 1) := by decide +kernel
theorem dX11_alike_25 : decode cX11_alike 25 = .ok (.aload 4, 2) := by decide +kernel
theorem dX11_alike_27 : decode cX11_alike 27 = .ok (.aload_n 0, 1) := by decide +kernel
theorem dX11_alike_28 : decode cX11_alike 28 = .ok (.getfield 98, 3) := by decide +kernel
theorem dX11_alike_31 : decode cX11_alike 31 = .ok (.invokevirtual 330, 3) := by decide +kernel
theorem dX11_alike_34 : decode cX11_alike 34 = .ok (.ifCond .eq 7, 3) := by decide +kernel
theorem dX11_alike_37 : decode cX11_alike 37 = .ok (.iconst 1, 1) := by decide +kernel
theorem dX11_alike_38 : decode cX11_alike 38 = .ok (.goto 4, 3) := by decide +kernel
theorem dX11_alike_41 : decode cX11_alike 41 = .ok (.iconst 0, 1) := by decide +kernel
theorem dX11_alike_42 : decode cX11_alike 42 = .ok (.ireturn, 1) := by decide +kernel
theorem dX11_shuffle_0 : decode cX11_shuffle 0 = .ok (.aload_n 0, 1) := by decide +kernel
theorem dX11_shuffle_1 : decode cX11_shuffle 1 = .ok (.iload_n 1, 1) := by decide +kernel
theorem dX11_shuffle_2 : decode cX11_shuffle 2 = .ok (.invokevirtual 326, 3) := by decide +kernel
theorem dX11_shuffle_5 : decode cX11_shuffle 5 = .ok (.astore 4, 2) := by decide +kernel
theorem dX11_shuffle_7 : decode cX11_shuffle 7 = .ok (.aload_n 0, 1) := by decide +kernel
theorem dX11_shuffle_8 : decode cX11_shuffle 8 = .ok (.iload_n 2, 1) := by decide +kernel
theorem dX11_shuffle_9 : decode cX11_shuffle 9 = .ok (.invokevirtual 326, 3) := by decide +kernel
theorem dX11_shuffle_12 : decode cX11_shuffle 12 = .ok (.astore 5, 2) := by decide +kernel
theorem dX11_shuffle_14 : decode cX11_shuffle 14 = .ok (.aload 4, 2) := by decide +kernel
theorem dX11_shuffle_16 : decode cX11_shuffle 16 = .ok (.ifnull 21, 3) := by decide +kernel
theorem dX11_shuffle_19 : decode cX11_shuffle 19 = .ok (.aload 5, 2) := by decide +kernel
theorem dX11_shuffle_21 : decode cX11_shuffle 21 = .ok (.ifnull 16, 3) := by decide +kernel
theorem dX11_shuffle_24 : decode cX11_shuffle 24 = .ok (.iload_n 3, 1) := by decide +kernel
theorem dX11_shuffle_25 : decode cX11_shuffle 25 = .ok (.ifCond .lt 12, 3) := by decide +kernel
theorem dX11_shuffle_28 : decode cX11_shuffle 28 = .ok (.iload_n 3, 1) := by decide +kernel
theorem dX11_shuffle_29 : decode cX11_shuffle 29 = .ok (.aload 4, 2) := by decide +kernel
theorem dX11_shuffle_31 : decode cX11_shuffle 31 = .ok (.getfield 334, 3) := by decide +kernel
theorem dX11_shuffle_34 : decode cX11_shuffle 34 = .ok (.if_icmp .lt 5, 3) := by decide +kernel
theorem dX11_shuffle_37 : decode cX11_shuffle 37 = .ok (.iconst (-1), 1) := by decide +kernel
theorem dX11_shuffle_38 : decode cX11_shuffle 38 = .ok (.ireturn, 1) := by decide +kernel
theorem dX11_shuffle_39 : decode cX11_shuffle 39 = .ok (.iload_n 3, 1) := by decide +kernel
theorem dX11_shuffle_40 : decode cX11_shuffle 40 = .ok (.aload_n 0, 1) := by decide +kernel
theorem dX11_shuffle_41 : decode cX11_shuffle 41 = .ok (.getfield 98, 3) := by decide +kernel
theorem dX11_shuffle_44 : decode cX11_shuffle 44 = .ok (.arraylength, 1) := by decide +kernel
theorem dX11_shuffle_45 : decode cX11_shuffle 45 = .ok (.if_icmp .ge 26, 3) := by decide +kernel
theorem dX11_shuffle_48 : decode cX11_shuffle 48 = .ok (.aload 4, 2) := by decide +kernel
theorem dX11_shuffle_50 : decode cX11_shuffle 50 = .ok (.aload 5, 2) := by decide +kernel
theorem dX11_shuffle_52 : decode cX11_shuffle 52 = .ok (.aload_n 0, 1) := by decide +kernel
theorem dX11_shuffle_53 : decode cX11_shuffle 53 = .ok (.getfield 98, 3) := by decide +kernel
theorem dX11_shuffle_56 : decode cX11_shuffle 56 = .ok (.invokevirtual 330, 3) := by decide +kernel
theorem dX11_shuffle_59 : decode cX11_shuffle 59 = .ok (.ifCond .eq 12, 3) := by decide +kernel
theorem dX11_shuffle_62 : decode cX11_shuffle 62 = .ok (.aload_n 0, 1) := by decide +kernel
theorem dX11_shuffle_63 : decode cX11_shuffle 63 = .ok (.getfield 98, 3) := by decide +kernel
theorem dX11_shuffle_66 : decode cX11_shuffle 66 = .ok (.iload_n 3, 1) := by decide +kernel
theorem dX11_shuffle_67 : decode cX11_shuffle 67 = .ok (.iaload, 1) := by decide +kernel
theorem dX11_shuffle_68 : decode cX11_shuffle 68 = .ok (.goto 4, 3) := by decide +kernel
theorem dX11_shuffle_71 : decode cX11_shuffle 71 = .ok (.iconst (-1), 1) := by decide +kernel
theorem dX11_shuffle_72 : decode cX11_shuffle 72 = .ok (.ireturn, 1) := by decide +kernel
theorem dX11_unlike_0 : decode cX11_unlike 0 = .ok (.aload_n 0, 1) := by decide +kernel
theorem dX11_unlike_1 : decode cX11_unlike 1 = .ok (.iload_n 1, 1) := by decide +kernel
theorem dX11_unlike_2 : decode cX11_unlike 2 = .ok (.invokevirtual 326, 3) := by decide +kernel
theorem dX11_unlike_5 : decode cX11_unlike 5 = .ok (.astore 6, 2) := by decide +kernel
theorem dX11_unlike_7 : decode cX11_unlike 7 = .ok (.aload_n 0, 1) := by decide +kernel
theorem dX11_unlike_8 : decode cX11_unlike 8 = .ok (.iload_n 2, 1) := by decide +kernel
theorem dX11_unlike_9 : decode cX11_unlike 9 = .ok (.invokevirtual 326, 3) := by decide +kernel
theorem dX11_unlike_12 : decode cX11_unlike 12 = .ok (.astore 7, 2) := by decide +kernel
theorem dX11_unlike_14 : decode cX11_unlike 14 = .ok (.aload 6, 2) := by decide +kernel
theorem dX11_unlike_16 : decode cX11_unlike 16 = .ok (.ifnull 26, 3) := by decide +kernel
theorem dX11_unlike_19 : decode cX11_unlike 19 = .ok (.aload 7, 2) := by decide +kernel
theorem dX11_unlike_21 : decode cX11_unlike 21 = .ok (.ifnull 21, 3) := by decide +kernel
theorem dX11_unlike_24 : decode cX11_unlike 24 = .ok (.iload_n 1, 1) := by decide +kernel
theorem dX11_unlike_25 : decode cX11_unlike 25 = .ok (.iload_n 2, 1) := by decide +kernel
theorem dX11_unlike_26 : decode cX11_unlike 26 = .ok (.if_icmp .eq 16, 3) := by decide +kernel
theorem dX11_unlike_29 : decode cX11_unlike 29 = .ok (.aload 6, 2) := by decide +kernel
theorem dX11_unlike_31 : decode cX11_unlike 31 = .ok (.getfield 334, 3) := by decide +kernel
theorem dX11_unlike_34 : decode cX11_unlike 34 = .ok (.aload 7, 2) := by decide +kernel
theorem dX11_unlike_36 : decode cX11_unlike 36 = .ok (.getfield 334, 3) := by decide +kernel
theorem dX11_unlike_39 : decode cX11_unlike 39 = .ok (.if_icmp .eq 5, 3) := by decide +kernel
theorem dX11_unlike_42 : decode cX11_unlike 42 = .ok (.iconst (-1), 1) := by decide +kernel
theorem dX11_unlike_43 : decode cX11_unlike 43 = .ok (.ireturn, 1) := by decide +kernel
theorem dX11_unlike_44 : decode cX11_unlike 44 = .ok (.iload 5, 2) := by decide +kernel
theorem dX11_unlike_46 : decode cX11_unlike 46 = .ok (.iconst 1, 1) := by decide +kernel
theorem dX11_unlike_47 : decode cX11_unlike 47 = .ok (.if_icmp .lt 10, 3) := by decide +kernel
theorem dX11_unlike_50 : decode cX11_unlike 50 = .ok (.iload 5, 2) := by decide +kernel
theorem dX11_unlike_52 : decode cX11_unlike 52 = .ok (.bipush 30, 2) := by decide +kernel
theorem dX11_unlike_54 : decode cX11_unlike 54 = .ok (.if_icmp .le 5, 3) := by decide +kernel
theorem dX11_unlike_57 : decode cX11_unlike 57 = .ok (.iconst (-1), 1) := by decide +kernel
theorem dX11_unlike_58 : decode cX11_unlike 58 = .ok (.ireturn, 1) := by decide +kernel
theorem dX11_unlike_59 : decode cX11_unlike 59 = .ok (.aload 6, 2) := by decide +kernel
theorem dX11_unlike_61 : decode cX11_unlike 61 = .ok (.aload 7, 2) := by decide +kernel
theorem dX11_unlike_63 : decode cX11_unlike 63 = .ok (.aload_n 0, 1) := by decide +kernel
theorem dX11_unlike_64 : decode cX11_unlike 64 = .ok (.getfield 98, 3) := by decide +kernel
theorem dX11_unlike_67 : decode cX11_unlike 67 = .ok (.invokevirtual 330, 3) := by decide +kernel
theorem dX11_unlike_70 : decode cX11_unlike 70 = .ok (.istore 8, 2) := by decide +kernel
theorem dX11_unlike_72 : decode cX11_unlike 72 = .ok (.iload_n 1, 1) := by decide +kernel
theorem dX11_unlike_73 : decode cX11_unlike 73 = .ok (.iload_n 2, 1) := by decide +kernel
theorem dX11_unlike_74 : decode cX11_unlike 74 = .ok (.if_icmp .ge 7, 3) := by decide +kernel
theorem dX11_unlike_77 : decode cX11_unlike 77 = .ok (.iconst 0, 1) := by decide +kernel
theorem dX11_unlike_78 : decode cX11_unlike 78 = .ok (.goto 4, 3) := by decide +kernel
theorem dX11_unlike_81 : decode cX11_unlike 81 = .ok (.iconst 1, 1) := by decide +kernel
theorem dX11_unlike_82 : decode cX11_unlike 82 = .ok (.istore 9, 2) := by decide +kernel
theorem dX11_unlike_84 : decode cX11_unlike 84 = .ok (.lload_n 3, 1) := by decide +kernel
theorem dX11_unlike_85 : decode cX11_unlike 85 = .ok (.lstore 10, 2) := by decide +kernel
theorem dX11_unlike_87 : decode cX11_unlike 87 = .ok (.iconst 0, 1) := by decide +kernel
theorem dX11_unlike_88 : decode cX11_unlike 88 = .ok (.istore 12, 2) := by decide +kernel
theorem dX11_unlike_90 : decode cX11_unlike 90 = .ok (.iconst 0, 1) := by decide +kernel
theorem dX11_unlike_91 : decode cX11_unlike 91 = .ok (.istore 13, 2) := by decide +kernel
theorem dX11_unlike_93 : decode cX11_unlike 93 = .ok (.iload 13, 2) := by decide +kernel
theorem dX11_unlike_95 : decode cX11_unlike 95 = .ok (.iload 5, 2) := by decide +kernel
theorem dX11_unlike_97 : decode cX11_unlike 97 = .ok (.if_icmp .ge 43, 3) := by decide +kernel
theorem dX11_unlike_100 : decode cX11_unlike 100 = .ok (.lload 10, 2) := by decide +kernel
theorem dX11_unlike_102 : decode cX11_unlike 102 = .ok (.ldc2_w 337, 3) := by decide +kernel
theorem dX11_unlike_105 : decode cX11_unlike 105 = .ok (.lmul, 1) := by decide +kernel
theorem dX11_unlike_106 : decode cX11_unlike 106 = .ok (.ldc2_w 339, 3) := by decide +kernel
theorem dX11_unlike_109 : decode cX11_unlike 109 = .ok (.ladd, 1) := by decide +kernel
theorem dX11_unlike_110 : decode cX11_unlike 110 = .ok (.lstore 10, 2) := by decide +kernel
theorem dX11_unlike_112 : decode cX11_unlike 112 = .ok (.iload 8, 2) := by decide +kernel
theorem dX11_unlike_114 : decode cX11_unlike 114 = .ok (.ifCond .eq 17, 3) := by decide +kernel
theorem dX11_unlike_117 : decode cX11_unlike 117 = .ok (.lload 10, 2) := by decide +kernel
theorem dX11_unlike_119 : decode cX11_unlike 119 = .ok (.bipush 33, 2) := by decide +kernel
theorem dX11_unlike_121 : decode cX11_unlike 121 = .ok (.lushr, 1) := by decide +kernel
theorem dX11_unlike_122 : decode cX11_unlike 122 = .ok (.lconst 1, 1) := by decide +kernel
theorem dX11_unlike_123 : decode cX11_unlike 123 = .ok (.land, 1) := by decide +kernel
theorem dX11_unlike_124 : decode cX11_unlike 124 = .ok (.iload 9, 2) := by decide +kernel
theorem dX11_unlike_126 : decode cX11_unlike 126 = .ok (.i2l, 1) := by decide +kernel
theorem dX11_unlike_127 : decode cX11_unlike 127 = .ok (.lcmp, 1) := by decide +kernel
theorem dX11_unlike_128 : decode cX11_unlike 128 = .ok (.ifCond .ne 6, 3) := by decide +kernel
theorem dX11_unlike_131 : decode cX11_unlike 131 = .ok (.iinc 12 1, 3) := by decide +kernel
theorem dX11_unlike_134 : decode cX11_unlike 134 = .ok (.iinc 13 1, 3) := by decide +kernel
theorem dX11_unlike_137 : decode cX11_unlike 137 = .ok (.goto (-44), 3) := by decide +kernel
theorem dX11_unlike_140 : decode cX11_unlike 140 = .ok (.iload 12, 2) := by decide +kernel
theorem dX11_unlike_142 : decode cX11_unlike 142 = .ok (.ireturn, 1) := by decide +kernel
theorem dX11_rooms_0 : decode cX11_rooms 0 = .ok (.lload_n 1, 1) := by decide +kernel
theorem dX11_rooms_1 : decode cX11_rooms 1 = .ok (.lconst 0, 1) := by decide +kernel
theorem dX11_rooms_2 : decode cX11_rooms 2 = .ok (.lcmp, 1) := by decide +kernel
theorem dX11_rooms_3 : decode cX11_rooms 3 = .ok (.ifCond .lt 20, 3) := by decide +kernel
theorem dX11_rooms_6 : decode cX11_rooms 6 = .ok (.lload_n 1, 1) := by decide +kernel
theorem dX11_rooms_7 : decode cX11_rooms 7 = .ok (.ldc2_w 343, 3) := by decide +kernel
theorem dX11_rooms_10 : decode cX11_rooms 10 = .ok (.lcmp, 1) := by decide +kernel
theorem dX11_rooms_11 : decode cX11_rooms 11 = .ok (.ifCond .ge 12, 3) := by decide +kernel
theorem dX11_rooms_14 : decode cX11_rooms 14 = .ok (.iload_n 3, 1) := by decide +kernel
theorem dX11_rooms_15 : decode cX11_rooms 15 = .ok (.ifCond .lt 8, 3) := by decide +kernel
theorem dX11_rooms_18 : decode cX11_rooms 18 = .ok (.iload_n 3, 1) := by decide +kernel
theorem dX11_rooms_19 : decode cX11_rooms 19 = .ok (.iconst 1, 1) := by decide +kernel
theorem dX11_rooms_20 : decode cX11_rooms 20 = .ok (.if_icmp .le 5, 3) := by decide +kernel
theorem dX11_rooms_23 : decode cX11_rooms 23 = .ok (.iconst (-1), 1) := by decide +kernel
theorem dX11_rooms_24 : decode cX11_rooms 24 = .ok (.ireturn, 1) := by decide +kernel
theorem dX11_rooms_25 : decode cX11_rooms 25 = .ok (.iload_n 3, 1) := by decide +kernel
theorem dX11_rooms_26 : decode cX11_rooms 26 = .ok (.ifCond .ne 10, 3) := by decide +kernel
theorem dX11_rooms_29 : decode cX11_rooms 29 = .ok (.lload_n 1, 1) := by decide +kernel
theorem dX11_rooms_30 : decode cX11_rooms 30 = .ok (.invokestatic 345, 3) := by decide +kernel
theorem dX11_rooms_33 : decode cX11_rooms 33 = .ok (.goto 7, 3) := by decide +kernel
theorem dX11_rooms_36 : decode cX11_rooms 36 = .ok (.lload_n 1, 1) := by decide +kernel
theorem dX11_rooms_37 : decode cX11_rooms 37 = .ok (.invokestatic 349, 3) := by decide +kernel
theorem dX11_rooms_40 : decode cX11_rooms 40 = .ok (.ireturn, 1) := by decide +kernel
theorem dX11_book_0 : decode cX11_book 0 = .ok (.iload_n 1, 1) := by decide +kernel
theorem dX11_book_1 : decode cX11_book 1 = .ok (.iload_n 2, 1) := by decide +kernel
theorem dX11_book_2 : decode cX11_book 2 = .ok (.invokestatic 352, 3) := by decide +kernel
theorem dX11_book_5 : decode cX11_book 5 = .ok (.ifCond .ne 5, 3) := by decide +kernel
theorem dX11_book_8 : decode cX11_book 8 = .ok (.iconst (-1), 1) := by decide +kernel
theorem dX11_book_9 : decode cX11_book 9 = .ok (.ireturn, 1) := by decide +kernel
theorem dX11_book_10 : decode cX11_book 10 = .ok (.iload_n 3, 1) := by decide +kernel
theorem dX11_book_11 : decode cX11_book 11 = .ok (.tableswitch 66 0 3 #[29, 43, 49, 60], 29) := by decide +kernel
theorem dX11_book_40 : decode cX11_book 40 = .ok (.iload_n 1, 1) := by decide +kernel
theorem dX11_book_41 : decode cX11_book 41 = .ok (.iload_n 2, 1) := by decide +kernel
theorem dX11_book_42 : decode cX11_book 42 = .ok (.invokestatic 355, 3) := by decide +kernel
theorem dX11_book_45 : decode cX11_book 45 = .ok (.ifCond .ne 7, 3) := by decide +kernel
theorem dX11_book_48 : decode cX11_book 48 = .ok (.iconst 1, 1) := by decide +kernel
theorem dX11_book_49 : decode cX11_book 49 = .ok (.goto 4, 3) := by decide +kernel
theorem dX11_book_52 : decode cX11_book 52 = .ok (.iconst 0, 1) := by decide +kernel
theorem dX11_book_53 : decode cX11_book 53 = .ok (.ireturn, 1) := by decide +kernel
theorem dX11_book_54 : decode cX11_book 54 = .ok (.iload_n 1, 1) := by decide +kernel
theorem dX11_book_55 : decode cX11_book 55 = .ok (.iload_n 2, 1) := by decide +kernel
theorem dX11_book_56 : decode cX11_book 56 = .ok (.invokestatic 355, 3) := by decide +kernel
theorem dX11_book_59 : decode cX11_book 59 = .ok (.ireturn, 1) := by decide +kernel
theorem dX11_book_60 : decode cX11_book 60 = .ok (.iload_n 1, 1) := by decide +kernel
theorem dX11_book_61 : decode cX11_book 61 = .ok (.iload_n 2, 1) := by decide +kernel
theorem dX11_book_62 : decode cX11_book 62 = .ok (.invokestatic 358, 3) := by decide +kernel
theorem dX11_book_65 : decode cX11_book 65 = .ok (.iload_n 2, 1) := by decide +kernel
theorem dX11_book_66 : decode cX11_book 66 = .ok (.ixor, 1) := by decide +kernel
theorem dX11_book_67 : decode cX11_book 67 = .ok (.invokestatic 361, 3) := by decide +kernel
theorem dX11_book_70 : decode cX11_book 70 = .ok (.ireturn, 1) := by decide +kernel
theorem dX11_book_71 : decode cX11_book 71 = .ok (.iload_n 1, 1) := by decide +kernel
theorem dX11_book_72 : decode cX11_book 72 = .ok (.iload_n 2, 1) := by decide +kernel
theorem dX11_book_73 : decode cX11_book 73 = .ok (.invokestatic 358, 3) := by decide +kernel
theorem dX11_book_76 : decode cX11_book 76 = .ok (.ireturn, 1) := by decide +kernel
theorem dX11_book_77 : decode cX11_book 77 = .ok (.iconst (-1), 1) := by decide +kernel
theorem dX11_book_78 : decode cX11_book 78 = .ok (.ireturn, 1) := by decide +kernel
theorem dX11_mended_0 : decode cX11_mended 0 = .ok (.iload_n 1, 1) := by decide +kernel
theorem dX11_mended_1 : decode cX11_mended 1 = .ok (.iload_n 2, 1) := by decide +kernel
theorem dX11_mended_2 : decode cX11_mended 2 = .ok (.invokestatic 352, 3) := by decide +kernel
theorem dX11_mended_5 : decode cX11_mended 5 = .ok (.ifCond .eq 14, 3) := by decide +kernel
theorem dX11_mended_8 : decode cX11_mended 8 = .ok (.iload_n 3, 1) := by decide +kernel
theorem dX11_mended_9 : decode cX11_mended 9 = .ok (.ifCond .lt 10, 3) := by decide +kernel
theorem dX11_mended_12 : decode cX11_mended 12 = .ok (.iload_n 3, 1) := by decide +kernel
theorem dX11_mended_13 : decode cX11_mended 13 = .ok (.iconst 1, 1) := by decide +kernel
theorem dX11_mended_14 : decode cX11_mended 14 = .ok (.iload_n 1, 1) := by decide +kernel
theorem dX11_mended_15 : decode cX11_mended 15 = .ok (.ishl, 1) := by decide +kernel
theorem dX11_mended_16 : decode cX11_mended 16 = .ok (.if_icmp .lt 5, 3) := by decide +kernel
theorem dX11_mended_19 : decode cX11_mended 19 = .ok (.iconst (-1), 1) := by decide +kernel
theorem dX11_mended_20 : decode cX11_mended 20 = .ok (.ireturn, 1) := by decide +kernel
theorem dX11_mended_21 : decode cX11_mended 21 = .ok (.iload_n 1, 1) := by decide +kernel
theorem dX11_mended_22 : decode cX11_mended 22 = .ok (.iload_n 2, 1) := by decide +kernel
theorem dX11_mended_23 : decode cX11_mended 23 = .ok (.iload_n 3, 1) := by decide +kernel
theorem dX11_mended_24 : decode cX11_mended 24 = .ok (.invokestatic 366, 3) := by decide +kernel
theorem dX11_mended_27 : decode cX11_mended 27 = .ok (.ireturn, 1) := by decide +kernel
theorem dX11_least_0 : decode cX11_least 0 = .ok (.iload_n 1, 1) := by decide +kernel
theorem dX11_least_1 : decode cX11_least 1 = .ok (.iconst 1, 1) := by decide +kernel
theorem dX11_least_2 : decode cX11_least 2 = .ok (.if_icmp .lt 17, 3) := by decide +kernel
theorem dX11_least_5 : decode cX11_least 5 = .ok (.iload_n 1, 1) := by decide +kernel
theorem dX11_least_6 : decode cX11_least 6 = .ok (.iconst 3, 1) := by decide +kernel
theorem dX11_least_7 : decode cX11_least 7 = .ok (.if_icmp .gt 12, 3) := by decide +kernel
theorem dX11_least_10 : decode cX11_least 10 = .ok (.iload_n 2, 1) := by decide +kernel
theorem dX11_least_11 : decode cX11_least 11 = .ok (.ifCond .lt 8, 3) := by decide +kernel
theorem dX11_least_14 : decode cX11_least 14 = .ok (.iload_n 2, 1) := by decide +kernel
theorem dX11_least_15 : decode cX11_least 15 = .ok (.iconst 1, 1) := by decide +kernel
theorem dX11_least_16 : decode cX11_least 16 = .ok (.if_icmp .le 5, 3) := by decide +kernel
theorem dX11_least_19 : decode cX11_least 19 = .ok (.iconst (-1), 1) := by decide +kernel
theorem dX11_least_20 : decode cX11_least 20 = .ok (.ireturn, 1) := by decide +kernel
theorem dX11_least_21 : decode cX11_least 21 = .ok (.iload_n 1, 1) := by decide +kernel
theorem dX11_least_22 : decode cX11_least 22 = .ok (.invokestatic 370, 3) := by decide +kernel
theorem dX11_least_25 : decode cX11_least 25 = .ok (.istore_n 3, 1) := by decide +kernel
theorem dX11_least_26 : decode cX11_least 26 = .ok (.iload_n 2, 1) := by decide +kernel
theorem dX11_least_27 : decode cX11_least 27 = .ok (.iconst 1, 1) := by decide +kernel
theorem dX11_least_28 : decode cX11_least 28 = .ok (.if_icmp .eq 8, 3) := by decide +kernel
theorem dX11_least_31 : decode cX11_least 31 = .ok (.iload_n 3, 1) := by decide +kernel
theorem dX11_least_32 : decode cX11_least 32 = .ok (.iconst (-1), 1) := by decide +kernel
theorem dX11_least_33 : decode cX11_least 33 = .ok (.if_icmp .ne 7, 3) := by decide +kernel
theorem dX11_least_36 : decode cX11_least 36 = .ok (.iload_n 3, 1) := by decide +kernel
theorem dX11_least_37 : decode cX11_least 37 = .ok (.goto 8, 3) := by decide +kernel
theorem dX11_least_40 : decode cX11_least 40 = .ok (.iload_n 1, 1) := by decide +kernel
theorem dX11_least_41 : decode cX11_least 41 = .ok (.iload_n 3, 1) := by decide +kernel
theorem dX11_least_42 : decode cX11_least 42 = .ok (.invokestatic 355, 3) := by decide +kernel
theorem dX11_least_45 : decode cX11_least 45 = .ok (.ireturn, 1) := by decide +kernel
theorem dX11_count_0 : decode cX11_count 0 = .ok (.iload_n 1, 1) := by decide +kernel
theorem dX11_count_1 : decode cX11_count 1 = .ok (.tableswitch 96 0 6 #[43, 51, 59, 67, 75, 83, 88], 43) := by decide +kernel
theorem dX11_count_44 : decode cX11_count 44 = .ok (.aload_n 0, 1) := by decide +kernel
theorem dX11_count_45 : decode cX11_count 45 = .ok (.getfield 76, 3) := by decide +kernel
theorem dX11_count_48 : decode cX11_count 48 = .ok (.invokevirtual 121, 3) := by decide +kernel
theorem dX11_count_51 : decode cX11_count 51 = .ok (.ireturn, 1) := by decide +kernel
theorem dX11_count_52 : decode cX11_count 52 = .ok (.aload_n 0, 1) := by decide +kernel
theorem dX11_count_53 : decode cX11_count 53 = .ok (.getfield 80, 3) := by decide +kernel
theorem dX11_count_56 : decode cX11_count 56 = .ok (.invokevirtual 121, 3) := by decide +kernel
theorem dX11_count_59 : decode cX11_count 59 = .ok (.ireturn, 1) := by decide +kernel
theorem dX11_count_60 : decode cX11_count 60 = .ok (.aload_n 0, 1) := by decide +kernel
theorem dX11_count_61 : decode cX11_count 61 = .ok (.getfield 83, 3) := by decide +kernel
theorem dX11_count_64 : decode cX11_count 64 = .ok (.invokevirtual 121, 3) := by decide +kernel
theorem dX11_count_67 : decode cX11_count 67 = .ok (.ireturn, 1) := by decide +kernel
theorem dX11_count_68 : decode cX11_count 68 = .ok (.aload_n 0, 1) := by decide +kernel
theorem dX11_count_69 : decode cX11_count 69 = .ok (.getfield 86, 3) := by decide +kernel
theorem dX11_count_72 : decode cX11_count 72 = .ok (.invokevirtual 121, 3) := by decide +kernel
theorem dX11_count_75 : decode cX11_count 75 = .ok (.ireturn, 1) := by decide +kernel
theorem dX11_count_76 : decode cX11_count 76 = .ok (.aload_n 0, 1) := by decide +kernel
theorem dX11_count_77 : decode cX11_count 77 = .ok (.getfield 89, 3) := by decide +kernel
theorem dX11_count_80 : decode cX11_count 80 = .ok (.invokevirtual 121, 3) := by decide +kernel
theorem dX11_count_83 : decode cX11_count 83 = .ok (.ireturn, 1) := by decide +kernel
theorem dX11_count_84 : decode cX11_count 84 = .ok (.aload_n 0, 1) := by decide +kernel
theorem dX11_count_85 : decode cX11_count 85 = .ok (.getfield 101, 3) := by decide +kernel
theorem dX11_count_88 : decode cX11_count 88 = .ok (.ireturn, 1) := by decide +kernel
theorem dX11_count_89 : decode cX11_count 89 = .ok (.aload_n 0, 1) := by decide +kernel
theorem dX11_count_90 : decode cX11_count 90 = .ok (.getfield 10, 3) := by decide +kernel
theorem dX11_count_93 : decode cX11_count 93 = .ok (.getfield 109, 3) := by decide +kernel
theorem dX11_count_96 : decode cX11_count 96 = .ok (.ireturn, 1) := by decide +kernel
theorem dX11_count_97 : decode cX11_count 97 = .ok (.iconst (-1), 1) := by decide +kernel
theorem dX11_count_98 : decode cX11_count 98 = .ok (.ireturn, 1) := by decide +kernel
theorem dX11_sayingAt_0 : decode cX11_sayingAt 0 = .ok (.iload_n 1, 1) := by decide +kernel
theorem dX11_sayingAt_1 : decode cX11_sayingAt 1 = .ok (.ifCond .lt 14, 3) := by decide +kernel
theorem dX11_sayingAt_4 : decode cX11_sayingAt 4 = .ok (.iload_n 1, 1) := by decide +kernel
theorem dX11_sayingAt_5 : decode cX11_sayingAt 5 = .ok (.aload_n 0, 1) := by decide +kernel
theorem dX11_sayingAt_6 : decode cX11_sayingAt 6 = .ok (.getfield 76, 3) := by decide +kernel
theorem dX11_sayingAt_9 : decode cX11_sayingAt 9 = .ok (.invokevirtual 121, 3) := by decide +kernel
theorem dX11_sayingAt_12 : decode cX11_sayingAt 12 = .ok (.if_icmp .lt 7, 3) := by decide +kernel
theorem dX11_sayingAt_15 : decode cX11_sayingAt 15 = .ok (.aconst_null, 1) := by decide +kernel
theorem dX11_sayingAt_16 : decode cX11_sayingAt 16 = .ok (.goto 14, 3) := by decide +kernel
theorem dX11_sayingAt_19 : decode cX11_sayingAt 19 = .ok (.aload_n 0, 1) := by decide +kernel
theorem dX11_sayingAt_20 : decode cX11_sayingAt 20 = .ok (.getfield 76, 3) := by decide +kernel
theorem dX11_sayingAt_23 : decode cX11_sayingAt 23 = .ok (.iload_n 1, 1) := by decide +kernel
theorem dX11_sayingAt_24 : decode cX11_sayingAt 24 = .ok (.invokevirtual 373, 3) := by decide +kernel
theorem dX11_sayingAt_27 : decode cX11_sayingAt 27 = .ok (.checkcast 124, 3) := by decide +kernel
theorem dX11_sayingAt_30 : decode cX11_sayingAt 30 = .ok (.areturn, 1) := by decide +kernel
theorem dX11_talkAt_0 : decode cX11_talkAt 0 = .ok (.iload_n 1, 1) := by decide +kernel
theorem dX11_talkAt_1 : decode cX11_talkAt 1 = .ok (.ifCond .lt 14, 3) := by decide +kernel
theorem dX11_talkAt_4 : decode cX11_talkAt 4 = .ok (.iload_n 1, 1) := by decide +kernel
theorem dX11_talkAt_5 : decode cX11_talkAt 5 = .ok (.aload_n 0, 1) := by decide +kernel
theorem dX11_talkAt_6 : decode cX11_talkAt 6 = .ok (.getfield 86, 3) := by decide +kernel
theorem dX11_talkAt_9 : decode cX11_talkAt 9 = .ok (.invokevirtual 121, 3) := by decide +kernel
theorem dX11_talkAt_12 : decode cX11_talkAt 12 = .ok (.if_icmp .lt 7, 3) := by decide +kernel
theorem dX11_talkAt_15 : decode cX11_talkAt 15 = .ok (.aconst_null, 1) := by decide +kernel
theorem dX11_talkAt_16 : decode cX11_talkAt 16 = .ok (.goto 14, 3) := by decide +kernel
theorem dX11_talkAt_19 : decode cX11_talkAt 19 = .ok (.aload_n 0, 1) := by decide +kernel
theorem dX11_talkAt_20 : decode cX11_talkAt 20 = .ok (.getfield 86, 3) := by decide +kernel
theorem dX11_talkAt_23 : decode cX11_talkAt 23 = .ok (.iload_n 1, 1) := by decide +kernel
theorem dX11_talkAt_24 : decode cX11_talkAt 24 = .ok (.invokevirtual 373, 3) := by decide +kernel
theorem dX11_talkAt_27 : decode cX11_talkAt 27 = .ok (.checkcast 200, 3) := by decide +kernel
theorem dX11_talkAt_30 : decode cX11_talkAt 30 = .ok (.areturn, 1) := by decide +kernel
theorem dX11_netAt_0 : decode cX11_netAt 0 = .ok (.iload_n 1, 1) := by decide +kernel
theorem dX11_netAt_1 : decode cX11_netAt 1 = .ok (.ifCond .lt 14, 3) := by decide +kernel
theorem dX11_netAt_4 : decode cX11_netAt 4 = .ok (.iload_n 1, 1) := by decide +kernel
theorem dX11_netAt_5 : decode cX11_netAt 5 = .ok (.aload_n 0, 1) := by decide +kernel
theorem dX11_netAt_6 : decode cX11_netAt 6 = .ok (.getfield 89, 3) := by decide +kernel
theorem dX11_netAt_9 : decode cX11_netAt 9 = .ok (.invokevirtual 121, 3) := by decide +kernel
theorem dX11_netAt_12 : decode cX11_netAt 12 = .ok (.if_icmp .lt 7, 3) := by decide +kernel
theorem dX11_netAt_15 : decode cX11_netAt 15 = .ok (.aconst_null, 1) := by decide +kernel
theorem dX11_netAt_16 : decode cX11_netAt 16 = .ok (.goto 14, 3) := by decide +kernel
theorem dX11_netAt_19 : decode cX11_netAt 19 = .ok (.aload_n 0, 1) := by decide +kernel
theorem dX11_netAt_20 : decode cX11_netAt 20 = .ok (.getfield 89, 3) := by decide +kernel
theorem dX11_netAt_23 : decode cX11_netAt 23 = .ok (.iload_n 1, 1) := by decide +kernel
theorem dX11_netAt_24 : decode cX11_netAt 24 = .ok (.invokevirtual 373, 3) := by decide +kernel
theorem dX11_netAt_27 : decode cX11_netAt 27 = .ok (.checkcast 96, 3) := by decide +kernel
theorem dX11_netAt_30 : decode cX11_netAt 30 = .ok (.areturn, 1) := by decide +kernel
theorem dX11_textAt_0 : decode cX11_textAt 0 = .ok (.iload_n 1, 1) := by decide +kernel
theorem dX11_textAt_1 : decode cX11_textAt 1 = .ok (.ifCond .lt 11, 3) := by decide +kernel
theorem dX11_textAt_4 : decode cX11_textAt 4 = .ok (.iload_n 1, 1) := by decide +kernel
theorem dX11_textAt_5 : decode cX11_textAt 5 = .ok (.aload_n 0, 1) := by decide +kernel
theorem dX11_textAt_6 : decode cX11_textAt 6 = .ok (.invokevirtual 121, 3) := by decide +kernel
theorem dX11_textAt_9 : decode cX11_textAt 9 = .ok (.if_icmp .lt 7, 3) := by decide +kernel
theorem dX11_textAt_12 : decode cX11_textAt 12 = .ok (.aconst_null, 1) := by decide +kernel
theorem dX11_textAt_13 : decode cX11_textAt 13 = .ok (.goto 11, 3) := by decide +kernel
theorem dX11_textAt_16 : decode cX11_textAt 16 = .ok (.aload_n 0, 1) := by decide +kernel
theorem dX11_textAt_17 : decode cX11_textAt 17 = .ok (.iload_n 1, 1) := by decide +kernel
theorem dX11_textAt_18 : decode cX11_textAt 18 = .ok (.invokevirtual 373, 3) := by decide +kernel
theorem dX11_textAt_21 : decode cX11_textAt 21 = .ok (.checkcast 377, 3) := by decide +kernel
theorem dX11_textAt_24 : decode cX11_textAt 24 = .ok (.areturn, 1) := by decide +kernel
theorem dX11_keepText_0 : decode cX11_keepText 0 = .ok (.aload_n 1, 1) := by decide +kernel
theorem dX11_keepText_1 : decode cX11_keepText 1 = .ok (.invokevirtual 121, 3) := by decide +kernel
theorem dX11_keepText_4 : decode cX11_keepText 4 = .ok (.bipush 12, 2) := by decide +kernel
theorem dX11_keepText_6 : decode cX11_keepText 6 = .ok (.if_icmp .ge 11, 3) := by decide +kernel
theorem dX11_keepText_9 : decode cX11_keepText 9 = .ok (.aload_n 2, 1) := by decide +kernel
theorem dX11_keepText_10 : decode cX11_keepText 10 = .ok (.invokevirtual 120, 3) := by decide +kernel
theorem dX11_keepText_13 : decode cX11_keepText 13 = .ok (.iconst (-1), 1) := by decide +kernel
theorem dX11_keepText_14 : decode cX11_keepText 14 = .ok (.if_icmp .eq 5, 3) := by decide +kernel
theorem dX11_keepText_17 : decode cX11_keepText 17 = .ok (.iconst (-1), 1) := by decide +kernel
theorem dX11_keepText_18 : decode cX11_keepText 18 = .ok (.ireturn, 1) := by decide +kernel
theorem dX11_keepText_19 : decode cX11_keepText 19 = .ok (.aload_n 1, 1) := by decide +kernel
theorem dX11_keepText_20 : decode cX11_keepText 20 = .ok (.new 377, 3) := by decide +kernel
theorem dX11_keepText_23 : decode cX11_keepText 23 = .ok (.dup, 1) := by decide +kernel
theorem dX11_keepText_24 : decode cX11_keepText 24 = .ok (.aload_n 0, 1) := by decide +kernel
theorem dX11_keepText_25 : decode cX11_keepText 25 = .ok (.getfield 10, 3) := by decide +kernel
theorem dX11_keepText_28 : decode cX11_keepText 28 = .ok (.invokevirtual 126, 3) := by decide +kernel
theorem dX11_keepText_31 : decode cX11_keepText 31 = .ok (.invokespecial 379, 3) := by decide +kernel
theorem dX11_keepText_34 : decode cX11_keepText 34 = .ok (.invokevirtual 142, 3) := by decide +kernel
theorem dX11_keepText_37 : decode cX11_keepText 37 = .ok (.pop, 1) := by decide +kernel
theorem dX11_keepText_38 : decode cX11_keepText 38 = .ok (.aload_n 0, 1) := by decide +kernel
theorem dX11_keepText_39 : decode cX11_keepText 39 = .ok (.getfield 10, 3) := by decide +kernel
theorem dX11_keepText_42 : decode cX11_keepText 42 = .ok (.iconst 0, 1) := by decide +kernel
theorem dX11_keepText_43 : decode cX11_keepText 43 = .ok (.putfield 109, 3) := by decide +kernel
theorem dX11_keepText_46 : decode cX11_keepText 46 = .ok (.aload_n 1, 1) := by decide +kernel
theorem dX11_keepText_47 : decode cX11_keepText 47 = .ok (.invokevirtual 121, 3) := by decide +kernel
theorem dX11_keepText_50 : decode cX11_keepText 50 = .ok (.iconst 1, 1) := by decide +kernel
theorem dX11_keepText_51 : decode cX11_keepText 51 = .ok (.isub, 1) := by decide +kernel
theorem dX11_keepText_52 : decode cX11_keepText 52 = .ok (.ireturn, 1) := by decide +kernel
theorem dX11_isModulus_0 : decode cX11_isModulus 0 = .ok (.iload_n 0, 1) := by decide +kernel
theorem dX11_isModulus_1 : decode cX11_isModulus 1 = .ok (.iconst 2, 1) := by decide +kernel
theorem dX11_isModulus_2 : decode cX11_isModulus 2 = .ok (.if_icmp .le 14, 3) := by decide +kernel
theorem dX11_isModulus_5 : decode cX11_isModulus 5 = .ok (.iload_n 0, 1) := by decide +kernel
theorem dX11_isModulus_6 : decode cX11_isModulus 6 = .ok (.invokestatic 174, 3) := by decide +kernel
theorem dX11_isModulus_9 : decode cX11_isModulus 9 = .ok (.ifCond .eq 7, 3) := by decide +kernel
theorem dX11_isModulus_12 : decode cX11_isModulus 12 = .ok (.iconst 1, 1) := by decide +kernel
theorem dX11_isModulus_13 : decode cX11_isModulus 13 = .ok (.goto 4, 3) := by decide +kernel
theorem dX11_isModulus_16 : decode cX11_isModulus 16 = .ok (.iconst 0, 1) := by decide +kernel
theorem dX11_isModulus_17 : decode cX11_isModulus 17 = .ok (.ireturn, 1) := by decide +kernel
theorem dX11_isOwnNumber_0 : decode cX11_isOwnNumber 0 = .ok (.iload_n 0, 1) := by decide +kernel
theorem dX11_isOwnNumber_1 : decode cX11_isOwnNumber 1 = .ok (.ifCond .lt 14, 3) := by decide +kernel
theorem dX11_isOwnNumber_4 : decode cX11_isOwnNumber 4 = .ok (.iload_n 0, 1) := by decide +kernel
theorem dX11_isOwnNumber_5 : decode cX11_isOwnNumber 5 = .ok (.ldc_w 303, 3) := by decide +kernel
theorem dX11_isOwnNumber_8 : decode cX11_isOwnNumber 8 = .ok (.if_icmp .gt 7, 3) := by decide +kernel
theorem dX11_isOwnNumber_11 : decode cX11_isOwnNumber 11 = .ok (.iconst 1, 1) := by decide +kernel
theorem dX11_isOwnNumber_12 : decode cX11_isOwnNumber 12 = .ok (.goto 4, 3) := by decide +kernel
theorem dX11_isOwnNumber_15 : decode cX11_isOwnNumber 15 = .ok (.iconst 0, 1) := by decide +kernel
theorem dX11_isOwnNumber_16 : decode cX11_isOwnNumber 16 = .ok (.ireturn, 1) := by decide +kernel
theorem dX11_areTurns_0 : decode cX11_areTurns 0 = .ok (.iload_n 0, 1) := by decide +kernel
theorem dX11_areTurns_1 : decode cX11_areTurns 1 = .ok (.ifCond .lt 13, 3) := by decide +kernel
theorem dX11_areTurns_4 : decode cX11_areTurns 4 = .ok (.iload_n 0, 1) := by decide +kernel
theorem dX11_areTurns_5 : decode cX11_areTurns 5 = .ok (.bipush 64, 2) := by decide +kernel
theorem dX11_areTurns_7 : decode cX11_areTurns 7 = .ok (.if_icmp .ge 7, 3) := by decide +kernel
theorem dX11_areTurns_10 : decode cX11_areTurns 10 = .ok (.iconst 1, 1) := by decide +kernel
theorem dX11_areTurns_11 : decode cX11_areTurns 11 = .ok (.goto 4, 3) := by decide +kernel
theorem dX11_areTurns_14 : decode cX11_areTurns 14 = .ok (.iconst 0, 1) := by decide +kernel
theorem dX11_areTurns_15 : decode cX11_areTurns 15 = .ok (.ireturn, 1) := by decide +kernel
theorem dX11_putPoint_0 : decode cX11_putPoint 0 = .ok (.iconst 0, 1) := by decide +kernel
theorem dX11_putPoint_1 : decode cX11_putPoint 1 = .ok (.istore_n 2, 1) := by decide +kernel
theorem dX11_putPoint_2 : decode cX11_putPoint 2 = .ok (.iload_n 2, 1) := by decide +kernel
theorem dX11_putPoint_3 : decode cX11_putPoint 3 = .ok (.aload_n 0, 1) := by decide +kernel
theorem dX11_putPoint_4 : decode cX11_putPoint 4 = .ok (.getfield 101, 3) := by decide +kernel
theorem dX11_putPoint_7 : decode cX11_putPoint 7 = .ok (.if_icmp .ge 38, 3) := by decide +kernel
theorem dX11_putPoint_10 : decode cX11_putPoint 10 = .ok (.iload_n 2, 1) := by decide +kernel
theorem dX11_putPoint_11 : decode cX11_putPoint 11 = .ok (.aload_n 0, 1) := by decide +kernel
theorem dX11_putPoint_12 : decode cX11_putPoint 12 = .ok (.getfield 92, 3) := by decide +kernel
theorem dX11_putPoint_15 : decode cX11_putPoint 15 = .ok (.arraylength, 1) := by decide +kernel
theorem dX11_putPoint_16 : decode cX11_putPoint 16 = .ok (.if_icmp .ge 29, 3) := by decide +kernel
theorem dX11_putPoint_19 : decode cX11_putPoint 19 = .ok (.aload_n 0, 1) := by decide +kernel
theorem dX11_putPoint_20 : decode cX11_putPoint 20 = .ok (.getfield 48, 3) := by decide +kernel
theorem dX11_putPoint_23 : decode cX11_putPoint 23 = .ok (.iload_n 2, 1) := by decide +kernel
theorem dX11_putPoint_24 : decode cX11_putPoint 24 = .ok (.aload_n 0, 1) := by decide +kernel
theorem dX11_putPoint_25 : decode cX11_putPoint 25 = .ok (.getfield 92, 3) := by decide +kernel
theorem dX11_putPoint_28 : decode cX11_putPoint 28 = .ok (.iload_n 2, 1) := by decide +kernel
theorem dX11_putPoint_29 : decode cX11_putPoint 29 = .ok (.iaload, 1) := by decide +kernel
theorem dX11_putPoint_30 : decode cX11_putPoint 30 = .ok (.i2l, 1) := by decide +kernel
theorem dX11_putPoint_31 : decode cX11_putPoint 31 = .ok (.iload_n 1, 1) := by decide +kernel
theorem dX11_putPoint_32 : decode cX11_putPoint 32 = .ok (.i2l, 1) := by decide +kernel
theorem dX11_putPoint_33 : decode cX11_putPoint 33 = .ok (.invokestatic 181, 3) := by decide +kernel
theorem dX11_putPoint_36 : decode cX11_putPoint 36 = .ok (.invokevirtual 159, 3) := by decide +kernel
theorem dX11_putPoint_39 : decode cX11_putPoint 39 = .ok (.iinc 2 1, 3) := by decide +kernel
theorem dX11_putPoint_42 : decode cX11_putPoint 42 = .ok (.goto (-40), 3) := by decide +kernel
theorem dX11_putPoint_45 : decode cX11_putPoint 45 = .ok (.return_, 1) := by decide +kernel
theorem dX12_init_0 : decode cX12_init 0 = .ok (.aload_n 0, 1) := by decide +kernel
theorem dX12_init_1 : decode cX12_init 1 = .ok (.invokespecial 3, 3) := by decide +kernel
theorem dX12_init_4 : decode cX12_init 4 = .ok (.aload_n 0, 1) := by decide +kernel
theorem dX12_init_5 : decode cX12_init 5 = .ok (.sipush 200, 3) := by decide +kernel
theorem dX12_init_8 : decode cX12_init 8 = .ok (.newarray .byte, 2) := by decide +kernel
theorem dX12_init_10 : decode cX12_init 10 = .ok (.putfield 9, 3) := by decide +kernel
theorem dX12_init_13 : decode cX12_init 13 = .ok (.aload_n 0, 1) := by decide +kernel
theorem dX12_init_14 : decode cX12_init 14 = .ok (.aload_n 0, 1) := by decide +kernel
theorem dX12_init_15 : decode cX12_init 15 = .ok (.getfield 9, 3) := by decide +kernel
theorem dX12_init_18 : decode cX12_init 18 = .ok (.putfield 13, 3) := by decide +kernel
theorem dX12_init_21 : decode cX12_init 21 = .ok (.aload_n 0, 1) := by decide +kernel
theorem dX12_init_22 : decode cX12_init 22 = .ok (.sipush 4200, 3) := by decide +kernel
theorem dX12_init_25 : decode cX12_init 25 = .ok (.newarray .int, 2) := by decide +kernel
theorem dX12_init_27 : decode cX12_init 27 = .ok (.putfield 16, 3) := by decide +kernel
theorem dX12_init_30 : decode cX12_init 30 = .ok (.aload_n 0, 1) := by decide +kernel
theorem dX12_init_31 : decode cX12_init 31 = .ok (.bipush 21, 2) := by decide +kernel
theorem dX12_init_33 : decode cX12_init 33 = .ok (.newarray .int, 2) := by decide +kernel
theorem dX12_init_35 : decode cX12_init 35 = .ok (.putfield 20, 3) := by decide +kernel
theorem dX12_init_38 : decode cX12_init 38 = .ok (.aload_n 0, 1) := by decide +kernel
theorem dX12_init_39 : decode cX12_init 39 = .ok (.bipush 21, 2) := by decide +kernel
theorem dX12_init_41 : decode cX12_init 41 = .ok (.newarray .int, 2) := by decide +kernel
theorem dX12_init_43 : decode cX12_init 43 = .ok (.putfield 23, 3) := by decide +kernel
theorem dX12_init_46 : decode cX12_init 46 = .ok (.aload_n 0, 1) := by decide +kernel
theorem dX12_init_47 : decode cX12_init 47 = .ok (.bipush 126, 2) := by decide +kernel
theorem dX12_init_49 : decode cX12_init 49 = .ok (.newarray .int, 2) := by decide +kernel
theorem dX12_init_51 : decode cX12_init 51 = .ok (.putfield 26, 3) := by decide +kernel
theorem dX12_init_54 : decode cX12_init 54 = .ok (.aload_n 0, 1) := by decide +kernel
theorem dX12_init_55 : decode cX12_init 55 = .ok (.bipush 21, 2) := by decide +kernel
theorem dX12_init_57 : decode cX12_init 57 = .ok (.newarray .int, 2) := by decide +kernel
theorem dX12_init_59 : decode cX12_init 59 = .ok (.putfield 29, 3) := by decide +kernel
theorem dX12_init_62 : decode cX12_init 62 = .ok (.aload_n 0, 1) := by decide +kernel
theorem dX12_init_63 : decode cX12_init 63 = .ok (.sipush 200, 3) := by decide +kernel
theorem dX12_init_66 : decode cX12_init 66 = .ok (.newarray .long, 2) := by decide +kernel
theorem dX12_init_68 : decode cX12_init 68 = .ok (.putfield 32, 3) := by decide +kernel
theorem dX12_init_71 : decode cX12_init 71 = .ok (.aload_n 0, 1) := by decide +kernel
theorem dX12_init_72 : decode cX12_init 72 = .ok (.bipush 6, 2) := by decide +kernel
theorem dX12_init_74 : decode cX12_init 74 = .ok (.newarray .long, 2) := by decide +kernel
theorem dX12_init_76 : decode cX12_init 76 = .ok (.putfield 36, 3) := by decide +kernel
theorem dX12_init_79 : decode cX12_init 79 = .ok (.aload_n 0, 1) := by decide +kernel
theorem dX12_init_80 : decode cX12_init 80 = .ok (.bipush 6, 2) := by decide +kernel
theorem dX12_init_82 : decode cX12_init 82 = .ok (.newarray .int, 2) := by decide +kernel
theorem dX12_init_84 : decode cX12_init 84 = .ok (.putfield 39, 3) := by decide +kernel
theorem dX12_init_87 : decode cX12_init 87 = .ok (.aload_n 0, 1) := by decide +kernel
theorem dX12_init_88 : decode cX12_init 88 = .ok (.sipush 201, 3) := by decide +kernel
theorem dX12_init_91 : decode cX12_init 91 = .ok (.newarray .long, 2) := by decide +kernel
theorem dX12_init_93 : decode cX12_init 93 = .ok (.putfield 42, 3) := by decide +kernel
theorem dX12_init_96 : decode cX12_init 96 = .ok (.aload_n 0, 1) := by decide +kernel
theorem dX12_init_97 : decode cX12_init 97 = .ok (.sipush 4800, 3) := by decide +kernel
theorem dX12_init_100 : decode cX12_init 100 = .ok (.newarray .byte, 2) := by decide +kernel
theorem dX12_init_102 : decode cX12_init 102 = .ok (.putfield 45, 3) := by decide +kernel
theorem dX12_init_105 : decode cX12_init 105 = .ok (.aload_n 0, 1) := by decide +kernel
theorem dX12_init_106 : decode cX12_init 106 = .ok (.bipush 24, 2) := by decide +kernel
theorem dX12_init_108 : decode cX12_init 108 = .ok (.newarray .int, 2) := by decide +kernel
theorem dX12_init_110 : decode cX12_init 110 = .ok (.putfield 48, 3) := by decide +kernel
theorem dX12_init_113 : decode cX12_init 113 = .ok (.aload_n 0, 1) := by decide +kernel
theorem dX12_init_114 : decode cX12_init 114 = .ok (.sipush 128, 3) := by decide +kernel
theorem dX12_init_117 : decode cX12_init 117 = .ok (.newarray .long, 2) := by decide +kernel
theorem dX12_init_119 : decode cX12_init 119 = .ok (.putfield 51, 3) := by decide +kernel
theorem dX12_init_122 : decode cX12_init 122 = .ok (.aload_n 0, 1) := by decide +kernel
theorem dX12_init_123 : decode cX12_init 123 = .ok (.ldc 54, 2) := by decide +kernel
theorem dX12_init_125 : decode cX12_init 125 = .ok (.putfield 56, 3) := by decide +kernel
theorem dX12_init_128 : decode cX12_init 128 = .ok (.aload_n 0, 1) := by decide +kernel
theorem dX12_init_129 : decode cX12_init 129 = .ok (.ldc 60, 2) := by decide +kernel
theorem dX12_init_131 : decode cX12_init 131 = .ok (.putfield 62, 3) := by decide +kernel
theorem dX12_init_134 : decode cX12_init 134 = .ok (.aload_n 0, 1) := by decide +kernel
theorem dX12_init_135 : decode cX12_init 135 = .ok (.bipush 12, 2) := by decide +kernel
theorem dX12_init_137 : decode cX12_init 137 = .ok (.newarray .int, 2) := by decide +kernel
theorem dX12_init_139 : decode cX12_init 139 = .ok (.putfield 65, 3) := by decide +kernel
theorem dX12_init_142 : decode cX12_init 142 = .ok (.aload_n 0, 1) := by decide +kernel
theorem dX12_init_143 : decode cX12_init 143 = .ok (.bipush 12, 2) := by decide +kernel
theorem dX12_init_145 : decode cX12_init 145 = .ok (.newarray .int, 2) := by decide +kernel
theorem dX12_init_147 : decode cX12_init 147 = .ok (.putfield 68, 3) := by decide +kernel
theorem dX12_init_150 : decode cX12_init 150 = .ok (.aload_n 0, 1) := by decide +kernel
theorem dX12_init_151 : decode cX12_init 151 = .ok (.bipush 12, 2) := by decide +kernel
theorem dX12_init_153 : decode cX12_init 153 = .ok (.newarray .int, 2) := by decide +kernel
theorem dX12_init_155 : decode cX12_init 155 = .ok (.putfield 71, 3) := by decide +kernel
theorem dX12_init_158 : decode cX12_init 158 = .ok (.aload_n 0, 1) := by decide +kernel
theorem dX12_init_159 : decode cX12_init 159 = .ok (.bipush 12, 2) := by decide +kernel
theorem dX12_init_161 : decode cX12_init 161 = .ok (.newarray .int, 2) := by decide +kernel
theorem dX12_init_163 : decode cX12_init 163 = .ok (.putfield 74, 3) := by decide +kernel
theorem dX12_init_166 : decode cX12_init 166 = .ok (.aload_n 0, 1) := by decide +kernel
theorem dX12_init_167 : decode cX12_init 167 = .ok (.bipush 6, 2) := by decide +kernel
theorem dX12_init_169 : decode cX12_init 169 = .ok (.newarray .long, 2) := by decide +kernel
theorem dX12_init_171 : decode cX12_init 171 = .ok (.putfield 77, 3) := by decide +kernel
theorem dX12_init_174 : decode cX12_init 174 = .ok (.aload_n 0, 1) := by decide +kernel
theorem dX12_init_175 : decode cX12_init 175 = .ok (.sipush 1206, 3) := by decide +kernel
theorem dX12_init_178 : decode cX12_init 178 = .ok (.newarray .long, 2) := by decide +kernel
theorem dX12_init_180 : decode cX12_init 180 = .ok (.putfield 80, 3) := by decide +kernel
theorem dX12_init_183 : decode cX12_init 183 = .ok (.aload_n 0, 1) := by decide +kernel
theorem dX12_init_184 : decode cX12_init 184 = .ok (.sipush 1206, 3) := by decide +kernel
theorem dX12_init_187 : decode cX12_init 187 = .ok (.newarray .long, 2) := by decide +kernel
theorem dX12_init_189 : decode cX12_init 189 = .ok (.putfield 83, 3) := by decide +kernel
theorem dX12_init_192 : decode cX12_init 192 = .ok (.aload_n 0, 1) := by decide +kernel
theorem dX12_init_193 : decode cX12_init 193 = .ok (.bipush 6, 2) := by decide +kernel
theorem dX12_init_195 : decode cX12_init 195 = .ok (.newarray .long, 2) := by decide +kernel
theorem dX12_init_197 : decode cX12_init 197 = .ok (.putfield 86, 3) := by decide +kernel
theorem dX12_init_200 : decode cX12_init 200 = .ok (.aload_n 0, 1) := by decide +kernel
theorem dX12_init_201 : decode cX12_init 201 = .ok (.bipush 12, 2) := by decide +kernel
theorem dX12_init_203 : decode cX12_init 203 = .ok (.newarray .int, 2) := by decide +kernel
theorem dX12_init_205 : decode cX12_init 205 = .ok (.putfield 89, 3) := by decide +kernel
theorem dX12_init_208 : decode cX12_init 208 = .ok (.aload_n 0, 1) := by decide +kernel
theorem dX12_init_209 : decode cX12_init 209 = .ok (.bipush 12, 2) := by decide +kernel
theorem dX12_init_211 : decode cX12_init 211 = .ok (.newarray .int, 2) := by decide +kernel
theorem dX12_init_213 : decode cX12_init 213 = .ok (.putfield 92, 3) := by decide +kernel
theorem dX12_init_216 : decode cX12_init 216 = .ok (.aload_n 0, 1) := by decide +kernel
theorem dX12_init_217 : decode cX12_init 217 = .ok (.bipush 6, 2) := by decide +kernel
theorem dX12_init_219 : decode cX12_init 219 = .ok (.newarray .int, 2) := by decide +kernel
theorem dX12_init_221 : decode cX12_init 221 = .ok (.putfield 95, 3) := by decide +kernel
theorem dX12_init_224 : decode cX12_init 224 = .ok (.aload_n 0, 1) := by decide +kernel
theorem dX12_init_225 : decode cX12_init 225 = .ok (.bipush 6, 2) := by decide +kernel
theorem dX12_init_227 : decode cX12_init 227 = .ok (.newarray .int, 2) := by decide +kernel
theorem dX12_init_229 : decode cX12_init 229 = .ok (.putfield 98, 3) := by decide +kernel
theorem dX12_init_232 : decode cX12_init 232 = .ok (.return_, 1) := by decide +kernel
theorem dX12_thrown_0 : decode cX12_thrown 0 = .ok (.aload_n 0, 1) := by decide +kernel
theorem dX12_thrown_1 : decode cX12_thrown 1 = .ok (.getfield 101, 3) := by decide +kernel
theorem dX12_thrown_4 : decode cX12_thrown 4 = .ok (.ireturn, 1) := by decide +kernel
theorem dX12_isIn_0 : decode cX12_isIn 0 = .ok (.lload_n 0, 1) := by decide +kernel
theorem dX12_isIn_1 : decode cX12_isIn 1 = .ok (.lload_n 2, 1) := by decide +kernel
theorem dX12_isIn_2 : decode cX12_isIn 2 = .ok (.lcmp, 1) := by decide +kernel
theorem dX12_isIn_3 : decode cX12_isIn 3 = .ok (.ifCond .lt 14, 3) := by decide +kernel
theorem dX12_isIn_6 : decode cX12_isIn 6 = .ok (.lload_n 0, 1) := by decide +kernel
theorem dX12_isIn_7 : decode cX12_isIn 7 = .ok (.lload 4, 2) := by decide +kernel
theorem dX12_isIn_9 : decode cX12_isIn 9 = .ok (.lcmp, 1) := by decide +kernel
theorem dX12_isIn_10 : decode cX12_isIn 10 = .ok (.ifCond .gt 7, 3) := by decide +kernel
theorem dX12_isIn_13 : decode cX12_isIn 13 = .ok (.iconst 1, 1) := by decide +kernel
theorem dX12_isIn_14 : decode cX12_isIn 14 = .ok (.goto 4, 3) := by decide +kernel
theorem dX12_isIn_17 : decode cX12_isIn 17 = .ok (.iconst 0, 1) := by decide +kernel
theorem dX12_isIn_18 : decode cX12_isIn 18 = .ok (.ireturn, 1) := by decide +kernel
theorem dX12_bytesIn_0 : decode cX12_bytesIn 0 = .ok (.iconst 0, 1) := by decide +kernel
theorem dX12_bytesIn_1 : decode cX12_bytesIn 1 = .ok (.istore_n 1, 1) := by decide +kernel
theorem dX12_bytesIn_2 : decode cX12_bytesIn 2 = .ok (.bipush 24, 2) := by decide +kernel
theorem dX12_bytesIn_4 : decode cX12_bytesIn 4 = .ok (.istore_n 2, 1) := by decide +kernel
theorem dX12_bytesIn_5 : decode cX12_bytesIn 5 = .ok (.iload_n 2, 1) := by decide +kernel
theorem dX12_bytesIn_6 : decode cX12_bytesIn 6 = .ok (.ifCond .lt 27, 3) := by decide +kernel
theorem dX12_bytesIn_9 : decode cX12_bytesIn 9 = .ok (.iload_n 1, 1) := by decide +kernel
theorem dX12_bytesIn_10 : decode cX12_bytesIn 10 = .ok (.iload_n 0, 1) := by decide +kernel
theorem dX12_bytesIn_11 : decode cX12_bytesIn 11 = .ok (.iload_n 2, 1) := by decide +kernel
theorem dX12_bytesIn_12 : decode cX12_bytesIn 12 = .ok (.ishr, 1) := by decide +kernel
theorem dX12_bytesIn_13 : decode cX12_bytesIn 13 = .ok (.sipush 255, 3) := by decide +kernel
theorem dX12_bytesIn_16 : decode cX12_bytesIn 16 = .ok (.iand, 1) := by decide +kernel
theorem dX12_bytesIn_17 : decode cX12_bytesIn 17 = .ok (.ifCond .eq 7, 3) := by decide +kernel
theorem dX12_bytesIn_20 : decode cX12_bytesIn 20 = .ok (.iconst 1, 1) := by decide +kernel
theorem dX12_bytesIn_21 : decode cX12_bytesIn 21 = .ok (.goto 4, 3) := by decide +kernel
theorem dX12_bytesIn_24 : decode cX12_bytesIn 24 = .ok (.iconst 0, 1) := by decide +kernel
theorem dX12_bytesIn_25 : decode cX12_bytesIn 25 = .ok (.iadd, 1) := by decide +kernel
theorem dX12_bytesIn_26 : decode cX12_bytesIn 26 = .ok (.istore_n 1, 1) := by decide +kernel
theorem dX12_bytesIn_27 : decode cX12_bytesIn 27 = .ok (.iinc 2 (-8), 3) := by decide +kernel
theorem dX12_bytesIn_30 : decode cX12_bytesIn 30 = .ok (.goto (-25), 3) := by decide +kernel
theorem dX12_bytesIn_33 : decode cX12_bytesIn 33 = .ok (.iload_n 1, 1) := by decide +kernel
theorem dX12_bytesIn_34 : decode cX12_bytesIn 34 = .ok (.ireturn, 1) := by decide +kernel
theorem dX12_put_0 : decode cX12_put 0 = .ok (.bipush 24, 2) := by decide +kernel
theorem dX12_put_2 : decode cX12_put 2 = .ok (.istore_n 2, 1) := by decide +kernel
theorem dX12_put_3 : decode cX12_put 3 = .ok (.iload_n 2, 1) := by decide +kernel
theorem dX12_put_4 : decode cX12_put 4 = .ok (.ifCond .lt 45, 3) := by decide +kernel
theorem dX12_put_7 : decode cX12_put 7 = .ok (.iload_n 1, 1) := by decide +kernel
theorem dX12_put_8 : decode cX12_put 8 = .ok (.iload_n 2, 1) := by decide +kernel
theorem dX12_put_9 : decode cX12_put 9 = .ok (.ishr, 1) := by decide +kernel
theorem dX12_put_10 : decode cX12_put 10 = .ok (.sipush 255, 3) := by decide +kernel
theorem dX12_put_13 : decode cX12_put 13 = .ok (.iand, 1) := by decide +kernel
theorem dX12_put_14 : decode cX12_put 14 = .ok (.ifCond .ne 6, 3) := by decide +kernel
theorem dX12_put_17 : decode cX12_put 17 = .ok (.goto 26, 3) := by decide +kernel
theorem dX12_put_20 : decode cX12_put 20 = .ok (.aload_n 0, 1) := by decide +kernel
theorem dX12_put_21 : decode cX12_put 21 = .ok (.getfield 9, 3) := by decide +kernel
theorem dX12_put_24 : decode cX12_put 24 = .ok (.aload_n 0, 1) := by decide +kernel
theorem dX12_put_25 : decode cX12_put 25 = .ok (.getfield 105, 3) := by decide +kernel
theorem dX12_put_28 : decode cX12_put 28 = .ok (.iload_n 1, 1) := by decide +kernel
theorem dX12_put_29 : decode cX12_put 29 = .ok (.iload_n 2, 1) := by decide +kernel
theorem dX12_put_30 : decode cX12_put 30 = .ok (.ishr, 1) := by decide +kernel
theorem dX12_put_31 : decode cX12_put 31 = .ok (.i2b, 1) := by decide +kernel
theorem dX12_put_32 : decode cX12_put 32 = .ok (.bastore, 1) := by decide +kernel
theorem dX12_put_33 : decode cX12_put 33 = .ok (.aload_n 0, 1) := by decide +kernel
theorem dX12_put_34 : decode cX12_put 34 = .ok (.dup, 1) := by decide +kernel
theorem dX12_put_35 : decode cX12_put 35 = .ok (.getfield 105, 3) := by decide +kernel
theorem dX12_put_38 : decode cX12_put 38 = .ok (.iconst 1, 1) := by decide +kernel
theorem dX12_put_39 : decode cX12_put 39 = .ok (.iadd, 1) := by decide +kernel
theorem dX12_put_40 : decode cX12_put 40 = .ok (.putfield 105, 3) := by decide +kernel
theorem dX12_put_43 : decode cX12_put 43 = .ok (.iinc 2 (-8), 3) := by decide +kernel
theorem dX12_put_46 : decode cX12_put 46 = .ok (.goto (-43), 3) := by decide +kernel
theorem dX12_put_49 : decode cX12_put 49 = .ok (.return_, 1) := by decide +kernel
theorem dX12_feed_0 : decode cX12_feed 0 = .ok (.aload_n 0, 1) := by decide +kernel
theorem dX12_feed_1 : decode cX12_feed 1 = .ok (.iconst 0, 1) := by decide +kernel
theorem dX12_feed_2 : decode cX12_feed 2 = .ok (.putfield 101, 3) := by decide +kernel
theorem dX12_feed_5 : decode cX12_feed 5 = .ok (.aload_n 0, 1) := by decide +kernel
theorem dX12_feed_6 : decode cX12_feed 6 = .ok (.getfield 105, 3) := by decide +kernel
theorem dX12_feed_9 : decode cX12_feed 9 = .ok (.iload_n 1, 1) := by decide +kernel
theorem dX12_feed_10 : decode cX12_feed 10 = .ok (.invokestatic 108, 3) := by decide +kernel
theorem dX12_feed_13 : decode cX12_feed 13 = .ok (.iadd, 1) := by decide +kernel
theorem dX12_feed_14 : decode cX12_feed 14 = .ok (.iload_n 2, 1) := by decide +kernel
theorem dX12_feed_15 : decode cX12_feed 15 = .ok (.invokestatic 108, 3) := by decide +kernel
theorem dX12_feed_18 : decode cX12_feed 18 = .ok (.iadd, 1) := by decide +kernel
theorem dX12_feed_19 : decode cX12_feed 19 = .ok (.iload_n 3, 1) := by decide +kernel
theorem dX12_feed_20 : decode cX12_feed 20 = .ok (.invokestatic 108, 3) := by decide +kernel
theorem dX12_feed_23 : decode cX12_feed 23 = .ok (.iadd, 1) := by decide +kernel
theorem dX12_feed_24 : decode cX12_feed 24 = .ok (.iload 4, 2) := by decide +kernel
theorem dX12_feed_26 : decode cX12_feed 26 = .ok (.invokestatic 108, 3) := by decide +kernel
theorem dX12_feed_29 : decode cX12_feed 29 = .ok (.iadd, 1) := by decide +kernel
theorem dX12_feed_30 : decode cX12_feed 30 = .ok (.iload 5, 2) := by decide +kernel
theorem dX12_feed_32 : decode cX12_feed 32 = .ok (.invokestatic 108, 3) := by decide +kernel
theorem dX12_feed_35 : decode cX12_feed 35 = .ok (.iadd, 1) := by decide +kernel
theorem dX12_feed_36 : decode cX12_feed 36 = .ok (.sipush 200, 3) := by decide +kernel
theorem dX12_feed_39 : decode cX12_feed 39 = .ok (.if_icmp .le 5, 3) := by decide +kernel
theorem dX12_feed_42 : decode cX12_feed 42 = .ok (.iconst (-1), 1) := by decide +kernel
theorem dX12_feed_43 : decode cX12_feed 43 = .ok (.ireturn, 1) := by decide +kernel
theorem dX12_feed_44 : decode cX12_feed 44 = .ok (.aload_n 0, 1) := by decide +kernel
theorem dX12_feed_45 : decode cX12_feed 45 = .ok (.iload_n 1, 1) := by decide +kernel
theorem dX12_feed_46 : decode cX12_feed 46 = .ok (.invokevirtual 112, 3) := by decide +kernel
theorem dX12_feed_49 : decode cX12_feed 49 = .ok (.aload_n 0, 1) := by decide +kernel
theorem dX12_feed_50 : decode cX12_feed 50 = .ok (.iload_n 2, 1) := by decide +kernel
theorem dX12_feed_51 : decode cX12_feed 51 = .ok (.invokevirtual 112, 3) := by decide +kernel
theorem dX12_feed_54 : decode cX12_feed 54 = .ok (.aload_n 0, 1) := by decide +kernel
theorem dX12_feed_55 : decode cX12_feed 55 = .ok (.iload_n 3, 1) := by decide +kernel
theorem dX12_feed_56 : decode cX12_feed 56 = .ok (.invokevirtual 112, 3) := by decide +kernel
theorem dX12_feed_59 : decode cX12_feed 59 = .ok (.aload_n 0, 1) := by decide +kernel
theorem dX12_feed_60 : decode cX12_feed 60 = .ok (.iload 4, 2) := by decide +kernel
theorem dX12_feed_62 : decode cX12_feed 62 = .ok (.invokevirtual 112, 3) := by decide +kernel
theorem dX12_feed_65 : decode cX12_feed 65 = .ok (.aload_n 0, 1) := by decide +kernel
theorem dX12_feed_66 : decode cX12_feed 66 = .ok (.iload 5, 2) := by decide +kernel
theorem dX12_feed_68 : decode cX12_feed 68 = .ok (.invokevirtual 112, 3) := by decide +kernel
theorem dX12_feed_71 : decode cX12_feed 71 = .ok (.aload_n 0, 1) := by decide +kernel
theorem dX12_feed_72 : decode cX12_feed 72 = .ok (.getfield 105, 3) := by decide +kernel
theorem dX12_feed_75 : decode cX12_feed 75 = .ok (.ireturn, 1) := by decide +kernel
theorem dX12_end_0 : decode cX12_end 0 = .ok (.aload_n 0, 1) := by decide +kernel
theorem dX12_end_1 : decode cX12_end 1 = .ok (.iconst 0, 1) := by decide +kernel
theorem dX12_end_2 : decode cX12_end 2 = .ok (.putfield 101, 3) := by decide +kernel
theorem dX12_end_5 : decode cX12_end 5 = .ok (.iload_n 1, 1) := by decide +kernel
theorem dX12_end_6 : decode cX12_end 6 = .ok (.ifCond .lt 11, 3) := by decide +kernel
theorem dX12_end_9 : decode cX12_end 9 = .ok (.iload_n 1, 1) := by decide +kernel
theorem dX12_end_10 : decode cX12_end 10 = .ok (.aload_n 0, 1) := by decide +kernel
theorem dX12_end_11 : decode cX12_end 11 = .ok (.getfield 105, 3) := by decide +kernel
theorem dX12_end_14 : decode cX12_end 14 = .ok (.if_icmp .le 5, 3) := by decide +kernel
theorem dX12_end_17 : decode cX12_end 17 = .ok (.iconst 0, 1) := by decide +kernel
theorem dX12_end_18 : decode cX12_end 18 = .ok (.ireturn, 1) := by decide +kernel
theorem dX12_end_19 : decode cX12_end 19 = .ok (.aload_n 0, 1) := by decide +kernel
theorem dX12_end_20 : decode cX12_end 20 = .ok (.iload_n 1, 1) := by decide +kernel
theorem dX12_end_21 : decode cX12_end 21 = .ok (.putfield 105, 3) := by decide +kernel
theorem dX12_end_24 : decode cX12_end 24 = .ok (.iconst 1, 1) := by decide +kernel
theorem dX12_end_25 : decode cX12_end 25 = .ok (.ireturn, 1) := by decide +kernel
theorem dX12_begin_0 : decode cX12_begin 0 = .ok (.aload_n 0, 1) := by decide +kernel
theorem dX12_begin_1 : decode cX12_begin 1 = .ok (.aload_n 1, 1) := by decide +kernel
theorem dX12_begin_2 : decode cX12_begin 2 = .ok (.putfield 13, 3) := by decide +kernel
theorem dX12_begin_5 : decode cX12_begin 5 = .ok (.aload_n 0, 1) := by decide +kernel
theorem dX12_begin_6 : decode cX12_begin 6 = .ok (.iload_n 2, 1) := by decide +kernel
theorem dX12_begin_7 : decode cX12_begin 7 = .ok (.putfield 116, 3) := by decide +kernel
theorem dX12_begin_10 : decode cX12_begin 10 = .ok (.aload_n 0, 1) := by decide +kernel
theorem dX12_begin_11 : decode cX12_begin 11 = .ok (.iload_n 3, 1) := by decide +kernel
theorem dX12_begin_12 : decode cX12_begin 12 = .ok (.putfield 119, 3) := by decide +kernel
theorem dX12_begin_15 : decode cX12_begin 15 = .ok (.aload_n 0, 1) := by decide +kernel
theorem dX12_begin_16 : decode cX12_begin 16 = .ok (.iconst 0, 1) := by decide +kernel
theorem dX12_begin_17 : decode cX12_begin 17 = .ok (.putfield 122, 3) := by decide +kernel
theorem dX12_begin_20 : decode cX12_begin 20 = .ok (.aload_n 0, 1) := by decide +kernel
theorem dX12_begin_21 : decode cX12_begin 21 = .ok (.iconst (-1), 1) := by decide +kernel
theorem dX12_begin_22 : decode cX12_begin 22 = .ok (.putfield 125, 3) := by decide +kernel
theorem dX12_begin_25 : decode cX12_begin 25 = .ok (.aload_n 0, 1) := by decide +kernel
theorem dX12_begin_26 : decode cX12_begin 26 = .ok (.iconst 0, 1) := by decide +kernel
theorem dX12_begin_27 : decode cX12_begin 27 = .ok (.putfield 128, 3) := by decide +kernel
theorem dX12_begin_30 : decode cX12_begin 30 = .ok (.aload_n 0, 1) := by decide +kernel
theorem dX12_begin_31 : decode cX12_begin 31 = .ok (.iload 4, 2) := by decide +kernel
theorem dX12_begin_33 : decode cX12_begin 33 = .ok (.putfield 131, 3) := by decide +kernel
theorem dX12_begin_36 : decode cX12_begin 36 = .ok (.return_, 1) := by decide +kernel
theorem dX12_look_0 : decode cX12_look 0 = .ok (.aload_n 0, 1) := by decide +kernel
theorem dX12_look_1 : decode cX12_look 1 = .ok (.getfield 122, 3) := by decide +kernel
theorem dX12_look_4 : decode cX12_look 4 = .ok (.aload_n 0, 1) := by decide +kernel
theorem dX12_look_5 : decode cX12_look 5 = .ok (.getfield 119, 3) := by decide +kernel
theorem dX12_look_8 : decode cX12_look 8 = .ok (.if_icmp .ge 35, 3) := by decide +kernel
theorem dX12_look_11 : decode cX12_look 11 = .ok (.aload_n 0, 1) := by decide +kernel
theorem dX12_look_12 : decode cX12_look 12 = .ok (.getfield 13, 3) := by decide +kernel
theorem dX12_look_15 : decode cX12_look 15 = .ok (.aload_n 0, 1) := by decide +kernel
theorem dX12_look_16 : decode cX12_look 16 = .ok (.getfield 116, 3) := by decide +kernel
theorem dX12_look_19 : decode cX12_look 19 = .ok (.aload_n 0, 1) := by decide +kernel
theorem dX12_look_20 : decode cX12_look 20 = .ok (.getfield 122, 3) := by decide +kernel
theorem dX12_look_23 : decode cX12_look 23 = .ok (.iadd, 1) := by decide +kernel
theorem dX12_look_24 : decode cX12_look 24 = .ok (.baload, 1) := by decide +kernel
theorem dX12_look_25 : decode cX12_look 25 = .ok (.bipush 32, 2) := by decide +kernel
theorem dX12_look_27 : decode cX12_look 27 = .ok (.if_icmp .ne 16, 3) := by decide +kernel
theorem dX12_look_30 : decode cX12_look 30 = .ok (.aload_n 0, 1) := by decide +kernel
theorem dX12_look_31 : decode cX12_look 31 = .ok (.dup, 1) := by decide +kernel
theorem dX12_look_32 : decode cX12_look 32 = .ok (.getfield 122, 3) := by decide +kernel
theorem dX12_look_35 : decode cX12_look 35 = .ok (.iconst 1, 1) := by decide +kernel
theorem dX12_look_36 : decode cX12_look 36 = .ok (.iadd, 1) := by decide +kernel
theorem dX12_look_37 : decode cX12_look 37 = .ok (.putfield 122, 3) := by decide +kernel
theorem dX12_look_40 : decode cX12_look 40 = .ok (.goto (-40), 3) := by decide +kernel
theorem dX12_look_43 : decode cX12_look 43 = .ok (.aload_n 0, 1) := by decide +kernel
theorem dX12_look_44 : decode cX12_look 44 = .ok (.getfield 122, 3) := by decide +kernel
theorem dX12_look_47 : decode cX12_look 47 = .ok (.aload_n 0, 1) := by decide +kernel
theorem dX12_look_48 : decode cX12_look 48 = .ok (.getfield 119, 3) := by decide +kernel
theorem dX12_look_51 : decode cX12_look 51 = .ok (.if_icmp .ge 24, 3) := by decide +kernel
theorem dX12_look_54 : decode cX12_look 54 = .ok (.aload_n 0, 1) := by decide +kernel
theorem dX12_look_55 : decode cX12_look 55 = .ok (.getfield 13, 3) := by decide +kernel
theorem dX12_look_58 : decode cX12_look 58 = .ok (.aload_n 0, 1) := by decide +kernel
theorem dX12_look_59 : decode cX12_look 59 = .ok (.getfield 116, 3) := by decide +kernel
theorem dX12_look_62 : decode cX12_look 62 = .ok (.aload_n 0, 1) := by decide +kernel
theorem dX12_look_63 : decode cX12_look 63 = .ok (.getfield 122, 3) := by decide +kernel
theorem dX12_look_66 : decode cX12_look 66 = .ok (.iadd, 1) := by decide +kernel
theorem dX12_look_67 : decode cX12_look 67 = .ok (.baload, 1) := by decide +kernel
theorem dX12_look_68 : decode cX12_look 68 = .ok (.sipush 255, 3) := by decide +kernel
theorem dX12_look_71 : decode cX12_look 71 = .ok (.iand, 1) := by decide +kernel
theorem dX12_look_72 : decode cX12_look 72 = .ok (.goto 4, 3) := by decide +kernel
theorem dX12_look_75 : decode cX12_look 75 = .ok (.iconst (-1), 1) := by decide +kernel
theorem dX12_look_76 : decode cX12_look 76 = .ok (.ireturn, 1) := by decide +kernel
theorem dX12_fails_0 : decode cX12_fails 0 = .ok (.aload_n 0, 1) := by decide +kernel
theorem dX12_fails_1 : decode cX12_fails 1 = .ok (.getfield 125, 3) := by decide +kernel
theorem dX12_fails_4 : decode cX12_fails 4 = .ok (.iconst (-1), 1) := by decide +kernel
theorem dX12_fails_5 : decode cX12_fails 5 = .ok (.if_icmp .ne 11, 3) := by decide +kernel
theorem dX12_fails_8 : decode cX12_fails 8 = .ok (.aload_n 0, 1) := by decide +kernel
theorem dX12_fails_9 : decode cX12_fails 9 = .ok (.aload_n 0, 1) := by decide +kernel
theorem dX12_fails_10 : decode cX12_fails 10 = .ok (.getfield 122, 3) := by decide +kernel
theorem dX12_fails_13 : decode cX12_fails 13 = .ok (.putfield 125, 3) := by decide +kernel
theorem dX12_fails_16 : decode cX12_fails 16 = .ok (.iconst 0, 1) := by decide +kernel
theorem dX12_fails_17 : decode cX12_fails 17 = .ok (.ireturn, 1) := by decide +kernel
theorem dX12_goesIn_0 : decode cX12_goesIn 0 = .ok (.aload_n 0, 1) := by decide +kernel
theorem dX12_goesIn_1 : decode cX12_goesIn 1 = .ok (.getfield 128, 3) := by decide +kernel
theorem dX12_goesIn_4 : decode cX12_goesIn 4 = .ok (.aload_n 0, 1) := by decide +kernel
theorem dX12_goesIn_5 : decode cX12_goesIn 5 = .ok (.getfield 131, 3) := by decide +kernel
theorem dX12_goesIn_8 : decode cX12_goesIn 8 = .ok (.if_icmp .ne 8, 3) := by decide +kernel
theorem dX12_goesIn_11 : decode cX12_goesIn 11 = .ok (.aload_n 0, 1) := by decide +kernel
theorem dX12_goesIn_12 : decode cX12_goesIn 12 = .ok (.invokevirtual 134, 3) := by decide +kernel
theorem dX12_goesIn_15 : decode cX12_goesIn 15 = .ok (.ireturn, 1) := by decide +kernel
theorem dX12_goesIn_16 : decode cX12_goesIn 16 = .ok (.aload_n 0, 1) := by decide +kernel
theorem dX12_goesIn_17 : decode cX12_goesIn 17 = .ok (.dup, 1) := by decide +kernel
theorem dX12_goesIn_18 : decode cX12_goesIn 18 = .ok (.getfield 128, 3) := by decide +kernel
theorem dX12_goesIn_21 : decode cX12_goesIn 21 = .ok (.iconst 1, 1) := by decide +kernel
theorem dX12_goesIn_22 : decode cX12_goesIn 22 = .ok (.iadd, 1) := by decide +kernel
theorem dX12_goesIn_23 : decode cX12_goesIn 23 = .ok (.putfield 128, 3) := by decide +kernel
theorem dX12_goesIn_26 : decode cX12_goesIn 26 = .ok (.aload_n 0, 1) := by decide +kernel
