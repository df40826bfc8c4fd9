theorem dX0_init_0 : decode cX0_init 0 = .ok (.aload_n 0, 1) := by decide +kernel
theorem dX0_init_1 : decode cX0_init 1 = .ok (.invokespecial 3, 3) := by decide +kernel
theorem dX0_init_4 : decode cX0_init 4 = .ok (.aload_n 0, 1) := by decide +kernel
theorem dX0_init_5 : decode cX0_init 5 = .ok (.bipush 10, 2) := by decide +kernel
theorem dX0_init_7 : decode cX0_init 7 = .ok (.newarray .long, 2) := by decide +kernel
theorem dX0_init_9 : decode cX0_init 9 = .ok (.putfield 11, 3) := by decide +kernel
theorem dX0_init_12 : decode cX0_init 12 = .ok (.aload_n 0, 1) := by decide +kernel
theorem dX0_init_13 : decode cX0_init 13 = .ok (.aload_n 1, 1) := by decide +kernel
theorem dX0_init_14 : decode cX0_init 14 = .ok (.putfield 17, 3) := by decide +kernel
theorem dX0_init_17 : decode cX0_init 17 = .ok (.return_, 1) := by decide +kernel
theorem dX0_sit_0 : decode cX0_sit 0 = .ok (.aload_n 0, 1) := by decide +kernel
theorem dX0_sit_1 : decode cX0_sit 1 = .ok (.aload_n 1, 1) := by decide +kernel
theorem dX0_sit_2 : decode cX0_sit 2 = .ok (.putfield 21, 3) := by decide +kernel
theorem dX0_sit_5 : decode cX0_sit 5 = .ok (.aload_n 0, 1) := by decide +kernel
theorem dX0_sit_6 : decode cX0_sit 6 = .ok (.aload_n 2, 1) := by decide +kernel
theorem dX0_sit_7 : decode cX0_sit 7 = .ok (.putfield 25, 3) := by decide +kernel
theorem dX0_sit_10 : decode cX0_sit 10 = .ok (.aload_n 0, 1) := by decide +kernel
theorem dX0_sit_11 : decode cX0_sit 11 = .ok (.iload_n 3, 1) := by decide +kernel
theorem dX0_sit_12 : decode cX0_sit 12 = .ok (.putfield 29, 3) := by decide +kernel
theorem dX0_sit_15 : decode cX0_sit 15 = .ok (.return_, 1) := by decide +kernel
theorem dX0_asksForSum_0 : decode cX0_asksForSum 0 = .ok (.aload_n 0, 1) := by decide +kernel
theorem dX0_asksForSum_1 : decode cX0_asksForSum 1 = .ok (.bipush 99, 2) := by decide +kernel
theorem dX0_asksForSum_3 : decode cX0_asksForSum 3 = .ok (.iload_n 1, 1) := by decide +kernel
theorem dX0_asksForSum_4 : decode cX0_asksForSum 4 = .ok (.invokevirtual 33, 3) := by decide +kernel
theorem dX0_asksForSum_7 : decode cX0_asksForSum 7 = .ok (.lconst 0, 1) := by decide +kernel
theorem dX0_asksForSum_8 : decode cX0_asksForSum 8 = .ok (.lcmp, 1) := by decide +kernel
theorem dX0_asksForSum_9 : decode cX0_asksForSum 9 = .ok (.ifCond .eq 7, 3) := by decide +kernel
theorem dX0_asksForSum_12 : decode cX0_asksForSum 12 = .ok (.iconst 1, 1) := by decide +kernel
theorem dX0_asksForSum_13 : decode cX0_asksForSum 13 = .ok (.goto 4, 3) := by decide +kernel
theorem dX0_asksForSum_16 : decode cX0_asksForSum 16 = .ok (.iconst 0, 1) := by decide +kernel
theorem dX0_asksForSum_17 : decode cX0_asksForSum 17 = .ok (.ireturn, 1) := by decide +kernel
theorem dX0_asksAtEnd_0 : decode cX0_asksAtEnd 0 = .ok (.aload_n 0, 1) := by decide +kernel
theorem dX0_asksAtEnd_1 : decode cX0_asksAtEnd 1 = .ok (.bipush 101, 2) := by decide +kernel
theorem dX0_asksAtEnd_3 : decode cX0_asksAtEnd 3 = .ok (.aload_n 0, 1) := by decide +kernel
theorem dX0_asksAtEnd_4 : decode cX0_asksAtEnd 4 = .ok (.invokevirtual 37, 3) := by decide +kernel
theorem dX0_asksAtEnd_7 : decode cX0_asksAtEnd 7 = .ok (.invokevirtual 33, 3) := by decide +kernel
theorem dX0_asksAtEnd_10 : decode cX0_asksAtEnd 10 = .ok (.lconst 0, 1) := by decide +kernel
theorem dX0_asksAtEnd_11 : decode cX0_asksAtEnd 11 = .ok (.lcmp, 1) := by decide +kernel
theorem dX0_asksAtEnd_12 : decode cX0_asksAtEnd 12 = .ok (.ifCond .eq 7, 3) := by decide +kernel
theorem dX0_asksAtEnd_15 : decode cX0_asksAtEnd 15 = .ok (.iconst 1, 1) := by decide +kernel
theorem dX0_asksAtEnd_16 : decode cX0_asksAtEnd 16 = .ok (.goto 4, 3) := by decide +kernel
theorem dX0_asksAtEnd_19 : decode cX0_asksAtEnd 19 = .ok (.iconst 0, 1) := by decide +kernel
theorem dX0_asksAtEnd_20 : decode cX0_asksAtEnd 20 = .ok (.ireturn, 1) := by decide +kernel
theorem dX0_dice_0 : decode cX0_dice 0 = .ok (.lconst 1, 1) := by decide +kernel
theorem dX0_dice_1 : decode cX0_dice 1 = .ok (.aload_n 0, 1) := by decide +kernel
theorem dX0_dice_2 : decode cX0_dice 2 = .ok (.getfield 29, 3) := by decide +kernel
theorem dX0_dice_5 : decode cX0_dice 5 = .ok (.i2l, 1) := by decide +kernel
theorem dX0_dice_6 : decode cX0_dice 6 = .ok (.aload_n 0, 1) := by decide +kernel
theorem dX0_dice_7 : decode cX0_dice 7 = .ok (.bipush 100, 2) := by decide +kernel
theorem dX0_dice_9 : decode cX0_dice 9 = .ok (.iload_n 1, 1) := by decide +kernel
theorem dX0_dice_10 : decode cX0_dice 10 = .ok (.invokevirtual 33, 3) := by decide +kernel
theorem dX0_dice_13 : decode cX0_dice 13 = .ok (.invokestatic 41, 3) := by decide +kernel
theorem dX0_dice_16 : decode cX0_dice 16 = .ok (.invokestatic 47, 3) := by decide +kernel
theorem dX0_dice_19 : decode cX0_dice 19 = .ok (.l2i, 1) := by decide +kernel
theorem dX0_dice_20 : decode cX0_dice 20 = .ok (.ireturn, 1) := by decide +kernel
theorem dX0_rounds_0 : decode cX0_rounds 0 = .ok (.aload_n 0, 1) := by decide +kernel
theorem dX0_rounds_1 : decode cX0_rounds 1 = .ok (.getfield 21, 3) := by decide +kernel
theorem dX0_rounds_4 : decode cX0_rounds 4 = .ok (.ifnonnull 7, 3) := by decide +kernel
theorem dX0_rounds_7 : decode cX0_rounds 7 = .ok (.iconst 0, 1) := by decide +kernel
theorem dX0_rounds_8 : decode cX0_rounds 8 = .ok (.goto 10, 3) := by decide +kernel
theorem dX0_rounds_11 : decode cX0_rounds 11 = .ok (.aload_n 0, 1) := by decide +kernel
theorem dX0_rounds_12 : decode cX0_rounds 12 = .ok (.getfield 21, 3) := by decide +kernel
theorem dX0_rounds_15 : decode cX0_rounds 15 = .ok (.getfield 50, 3) := by decide +kernel
theorem dX0_rounds_18 : decode cX0_rounds 18 = .ok (.ireturn, 1) := by decide +kernel
theorem dX0_steepOf_0 : decode cX0_steepOf 0 = .ok (.aload_n 0, 1) := by decide +kernel
theorem dX0_steepOf_1 : decode cX0_steepOf 1 = .ok (.getfield 21, 3) := by decide +kernel
theorem dX0_steepOf_4 : decode cX0_steepOf 4 = .ok (.ifnonnull 7, 3) := by decide +kernel
theorem dX0_steepOf_7 : decode cX0_steepOf 7 = .ok (.iconst 0, 1) := by decide +kernel
theorem dX0_steepOf_8 : decode cX0_steepOf 8 = .ok (.goto 11, 3) := by decide +kernel
theorem dX0_steepOf_11 : decode cX0_steepOf 11 = .ok (.aload_n 0, 1) := by decide +kernel
theorem dX0_steepOf_12 : decode cX0_steepOf 12 = .ok (.getfield 21, 3) := by decide +kernel
theorem dX0_steepOf_15 : decode cX0_steepOf 15 = .ok (.iload_n 1, 1) := by decide +kernel
theorem dX0_steepOf_16 : decode cX0_steepOf 16 = .ok (.invokevirtual 55, 3) := by decide +kernel
theorem dX0_steepOf_19 : decode cX0_steepOf 19 = .ok (.ireturn, 1) := by decide +kernel
theorem dX0_lawWorth_0 : decode cX0_lawWorth 0 = .ok (.aload_n 0, 1) := by decide +kernel
theorem dX0_lawWorth_1 : decode cX0_lawWorth 1 = .ok (.getfield 25, 3) := by decide +kernel
theorem dX0_lawWorth_4 : decode cX0_lawWorth 4 = .ok (.ifnonnull 5, 3) := by decide +kernel
theorem dX0_lawWorth_7 : decode cX0_lawWorth 7 = .ok (.lconst 0, 1) := by decide +kernel
theorem dX0_lawWorth_8 : decode cX0_lawWorth 8 = .ok (.lreturn, 1) := by decide +kernel
theorem dX0_lawWorth_9 : decode cX0_lawWorth 9 = .ok (.aload_n 0, 1) := by decide +kernel
theorem dX0_lawWorth_10 : decode cX0_lawWorth 10 = .ok (.getfield 11, 3) := by decide +kernel
theorem dX0_lawWorth_13 : decode cX0_lawWorth 13 = .ok (.iconst 4, 1) := by decide +kernel
theorem dX0_lawWorth_14 : decode cX0_lawWorth 14 = .ok (.iload_n 2, 1) := by decide +kernel
theorem dX0_lawWorth_15 : decode cX0_lawWorth 15 = .ok (.i2l, 1) := by decide +kernel
theorem dX0_lawWorth_16 : decode cX0_lawWorth 16 = .ok (.lastore, 1) := by decide +kernel
theorem dX0_lawWorth_17 : decode cX0_lawWorth 17 = .ok (.aload_n 0, 1) := by decide +kernel
theorem dX0_lawWorth_18 : decode cX0_lawWorth 18 = .ok (.getfield 11, 3) := by decide +kernel
theorem dX0_lawWorth_21 : decode cX0_lawWorth 21 = .ok (.bipush 6, 2) := by decide +kernel
theorem dX0_lawWorth_23 : decode cX0_lawWorth 23 = .ok (.aload_n 0, 1) := by decide +kernel
theorem dX0_lawWorth_24 : decode cX0_lawWorth 24 = .ok (.invokevirtual 37, 3) := by decide +kernel
theorem dX0_lawWorth_27 : decode cX0_lawWorth 27 = .ok (.i2l, 1) := by decide +kernel
theorem dX0_lawWorth_28 : decode cX0_lawWorth 28 = .ok (.lastore, 1) := by decide +kernel
theorem dX0_lawWorth_29 : decode cX0_lawWorth 29 = .ok (.aload_n 0, 1) := by decide +kernel
theorem dX0_lawWorth_30 : decode cX0_lawWorth 30 = .ok (.getfield 11, 3) := by decide +kernel
theorem dX0_lawWorth_33 : decode cX0_lawWorth 33 = .ok (.bipush 7, 2) := by decide +kernel
theorem dX0_lawWorth_35 : decode cX0_lawWorth 35 = .ok (.aload_n 0, 1) := by decide +kernel
theorem dX0_lawWorth_36 : decode cX0_lawWorth 36 = .ok (.getfield 29, 3) := by decide +kernel
theorem dX0_lawWorth_39 : decode cX0_lawWorth 39 = .ok (.i2l, 1) := by decide +kernel
theorem dX0_lawWorth_40 : decode cX0_lawWorth 40 = .ok (.lastore, 1) := by decide +kernel
theorem dX0_lawWorth_41 : decode cX0_lawWorth 41 = .ok (.aload_n 0, 1) := by decide +kernel
theorem dX0_lawWorth_42 : decode cX0_lawWorth 42 = .ok (.getfield 11, 3) := by decide +kernel
theorem dX0_lawWorth_45 : decode cX0_lawWorth 45 = .ok (.bipush 9, 2) := by decide +kernel
theorem dX0_lawWorth_47 : decode cX0_lawWorth 47 = .ok (.iload_n 2, 1) := by decide +kernel
theorem dX0_lawWorth_48 : decode cX0_lawWorth 48 = .ok (.aload_n 0, 1) := by decide +kernel
theorem dX0_lawWorth_49 : decode cX0_lawWorth 49 = .ok (.invokevirtual 37, 3) := by decide +kernel
theorem dX0_lawWorth_52 : decode cX0_lawWorth 52 = .ok (.if_icmp .ge 12, 3) := by decide +kernel
theorem dX0_lawWorth_55 : decode cX0_lawWorth 55 = .ok (.aload_n 0, 1) := by decide +kernel
theorem dX0_lawWorth_56 : decode cX0_lawWorth 56 = .ok (.iload_n 2, 1) := by decide +kernel
theorem dX0_lawWorth_57 : decode cX0_lawWorth 57 = .ok (.invokevirtual 59, 3) := by decide +kernel
theorem dX0_lawWorth_60 : decode cX0_lawWorth 60 = .ok (.i2l, 1) := by decide +kernel
theorem dX0_lawWorth_61 : decode cX0_lawWorth 61 = .ok (.goto 4, 3) := by decide +kernel
theorem dX0_lawWorth_64 : decode cX0_lawWorth 64 = .ok (.lconst 0, 1) := by decide +kernel
theorem dX0_lawWorth_65 : decode cX0_lawWorth 65 = .ok (.lastore, 1) := by decide +kernel
theorem dX0_lawWorth_66 : decode cX0_lawWorth 66 = .ok (.aload_n 0, 1) := by decide +kernel
theorem dX0_lawWorth_67 : decode cX0_lawWorth 67 = .ok (.getfield 17, 3) := by decide +kernel
theorem dX0_lawWorth_70 : decode cX0_lawWorth 70 = .ok (.aload_n 0, 1) := by decide +kernel
theorem dX0_lawWorth_71 : decode cX0_lawWorth 71 = .ok (.getfield 25, 3) := by decide +kernel
theorem dX0_lawWorth_74 : decode cX0_lawWorth 74 = .ok (.iload_n 1, 1) := by decide +kernel
theorem dX0_lawWorth_75 : decode cX0_lawWorth 75 = .ok (.aload_n 0, 1) := by decide +kernel
theorem dX0_lawWorth_76 : decode cX0_lawWorth 76 = .ok (.getfield 11, 3) := by decide +kernel
theorem dX0_lawWorth_79 : decode cX0_lawWorth 79 = .ok (.invokevirtual 60, 3) := by decide +kernel
theorem dX0_lawWorth_82 : decode cX0_lawWorth 82 = .ok (.lreturn, 1) := by decide +kernel
theorem dX0_allRows_0 : decode cX0_allRows 0 = .ok (.lconst 1, 1) := by decide +kernel
theorem dX0_allRows_1 : decode cX0_allRows 1 = .ok (.lstore_n 1, 1) := by decide +kernel
theorem dX0_allRows_2 : decode cX0_allRows 2 = .ok (.iconst 0, 1) := by decide +kernel
theorem dX0_allRows_3 : decode cX0_allRows 3 = .ok (.istore_n 3, 1) := by decide +kernel
theorem dX0_allRows_4 : decode cX0_allRows 4 = .ok (.iload_n 3, 1) := by decide +kernel
theorem dX0_allRows_5 : decode cX0_allRows 5 = .ok (.aload_n 0, 1) := by decide +kernel
theorem dX0_allRows_6 : decode cX0_allRows 6 = .ok (.invokevirtual 37, 3) := by decide +kernel
theorem dX0_allRows_9 : decode cX0_allRows 9 = .ok (.if_icmp .ge 28, 3) := by decide +kernel
theorem dX0_allRows_12 : decode cX0_allRows 12 = .ok (.lload_n 1, 1) := by decide +kernel
theorem dX0_allRows_13 : decode cX0_allRows 13 = .ok (.aload_n 0, 1) := by decide +kernel
theorem dX0_allRows_14 : decode cX0_allRows 14 = .ok (.iload_n 3, 1) := by decide +kernel
theorem dX0_allRows_15 : decode cX0_allRows 15 = .ok (.invokevirtual 66, 3) := by decide +kernel
theorem dX0_allRows_18 : decode cX0_allRows 18 = .ok (.i2l, 1) := by decide +kernel
theorem dX0_allRows_19 : decode cX0_allRows 19 = .ok (.lmul, 1) := by decide +kernel
theorem dX0_allRows_20 : decode cX0_allRows 20 = .ok (.lstore_n 1, 1) := by decide +kernel
theorem dX0_allRows_21 : decode cX0_allRows 21 = .ok (.lload_n 1, 1) := by decide +kernel
theorem dX0_allRows_22 : decode cX0_allRows 22 = .ok (.ldc2_w 69, 3) := by decide +kernel
theorem dX0_allRows_25 : decode cX0_allRows 25 = .ok (.lcmp, 1) := by decide +kernel
theorem dX0_allRows_26 : decode cX0_allRows 26 = .ok (.ifCond .le 5, 3) := by decide +kernel
theorem dX0_allRows_29 : decode cX0_allRows 29 = .ok (.iconst (-1), 1) := by decide +kernel
theorem dX0_allRows_30 : decode cX0_allRows 30 = .ok (.ireturn, 1) := by decide +kernel
theorem dX0_allRows_31 : decode cX0_allRows 31 = .ok (.iinc 3 1, 3) := by decide +kernel
theorem dX0_allRows_34 : decode cX0_allRows 34 = .ok (.goto (-30), 3) := by decide +kernel
theorem dX0_allRows_37 : decode cX0_allRows 37 = .ok (.lload_n 1, 1) := by decide +kernel
theorem dX0_allRows_38 : decode cX0_allRows 38 = .ok (.l2i, 1) := by decide +kernel
theorem dX0_allRows_39 : decode cX0_allRows 39 = .ok (.ireturn, 1) := by decide +kernel
theorem dX0_mostRoots_0 : decode cX0_mostRoots 0 = .ok (.aload_n 0, 1) := by decide +kernel
theorem dX0_mostRoots_1 : decode cX0_mostRoots 1 = .ok (.iload_n 1, 1) := by decide +kernel
theorem dX0_mostRoots_2 : decode cX0_mostRoots 2 = .ok (.invokevirtual 66, 3) := by decide +kernel
theorem dX0_mostRoots_5 : decode cX0_mostRoots 5 = .ok (.istore_n 2, 1) := by decide +kernel
theorem dX0_mostRoots_6 : decode cX0_mostRoots 6 = .ok (.aload_n 0, 1) := by decide +kernel
theorem dX0_mostRoots_7 : decode cX0_mostRoots 7 = .ok (.iload_n 1, 1) := by decide +kernel
theorem dX0_mostRoots_8 : decode cX0_mostRoots 8 = .ok (.invokevirtual 71, 3) := by decide +kernel
theorem dX0_mostRoots_11 : decode cX0_mostRoots 11 = .ok (.ifCond .ne 5, 3) := by decide +kernel
theorem dX0_mostRoots_14 : decode cX0_mostRoots 14 = .ok (.iload_n 2, 1) := by decide +kernel
theorem dX0_mostRoots_15 : decode cX0_mostRoots 15 = .ok (.ireturn, 1) := by decide +kernel
theorem dX0_mostRoots_16 : decode cX0_mostRoots 16 = .ok (.aload_n 0, 1) := by decide +kernel
theorem dX0_mostRoots_17 : decode cX0_mostRoots 17 = .ok (.iload_n 1, 1) := by decide +kernel
theorem dX0_mostRoots_18 : decode cX0_mostRoots 18 = .ok (.invokevirtual 59, 3) := by decide +kernel
theorem dX0_mostRoots_21 : decode cX0_mostRoots 21 = .ok (.iconst 1, 1) := by decide +kernel
theorem dX0_mostRoots_22 : decode cX0_mostRoots 22 = .ok (.iload_n 2, 1) := by decide +kernel
theorem dX0_mostRoots_23 : decode cX0_mostRoots 23 = .ok (.iconst 1, 1) := by decide +kernel
theorem dX0_mostRoots_24 : decode cX0_mostRoots 24 = .ok (.isub, 1) := by decide +kernel
theorem dX0_mostRoots_25 : decode cX0_mostRoots 25 = .ok (.invokestatic 75, 3) := by decide +kernel
theorem dX0_mostRoots_28 : decode cX0_mostRoots 28 = .ok (.invokestatic 78, 3) := by decide +kernel
theorem dX0_mostRoots_31 : decode cX0_mostRoots 31 = .ok (.ireturn, 1) := by decide +kernel
theorem dX0_tellsBest_0 : decode cX0_tellsBest 0 = .ok (.lconst 1, 1) := by decide +kernel
theorem dX0_tellsBest_1 : decode cX0_tellsBest 1 = .ok (.lstore_n 1, 1) := by decide +kernel
theorem dX0_tellsBest_2 : decode cX0_tellsBest 2 = .ok (.lconst 1, 1) := by decide +kernel
theorem dX0_tellsBest_3 : decode cX0_tellsBest 3 = .ok (.lstore_n 3, 1) := by decide +kernel
theorem dX0_tellsBest_4 : decode cX0_tellsBest 4 = .ok (.iconst 0, 1) := by decide +kernel
theorem dX0_tellsBest_5 : decode cX0_tellsBest 5 = .ok (.istore 5, 2) := by decide +kernel
theorem dX0_tellsBest_7 : decode cX0_tellsBest 7 = .ok (.iload 5, 2) := by decide +kernel
theorem dX0_tellsBest_9 : decode cX0_tellsBest 9 = .ok (.aload_n 0, 1) := by decide +kernel
theorem dX0_tellsBest_10 : decode cX0_tellsBest 10 = .ok (.invokevirtual 37, 3) := by decide +kernel
theorem dX0_tellsBest_13 : decode cX0_tellsBest 13 = .ok (.if_icmp .ge 58, 3) := by decide +kernel
theorem dX0_tellsBest_16 : decode cX0_tellsBest 16 = .ok (.aload_n 0, 1) := by decide +kernel
theorem dX0_tellsBest_17 : decode cX0_tellsBest 17 = .ok (.iload 5, 2) := by decide +kernel
theorem dX0_tellsBest_19 : decode cX0_tellsBest 19 = .ok (.invokevirtual 66, 3) := by decide +kernel
theorem dX0_tellsBest_22 : decode cX0_tellsBest 22 = .ok (.istore 6, 2) := by decide +kernel
theorem dX0_tellsBest_24 : decode cX0_tellsBest 24 = .ok (.iload 6, 2) := by decide +kernel
theorem dX0_tellsBest_26 : decode cX0_tellsBest 26 = .ok (.sipush 1000, 3) := by decide +kernel
theorem dX0_tellsBest_29 : decode cX0_tellsBest 29 = .ok (.if_icmp .gt 15, 3) := by decide +kernel
theorem dX0_tellsBest_32 : decode cX0_tellsBest 32 = .ok (.lload_n 3, 1) := by decide +kernel
theorem dX0_tellsBest_33 : decode cX0_tellsBest 33 = .ok (.iload 6, 2) := by decide +kernel
theorem dX0_tellsBest_35 : decode cX0_tellsBest 35 = .ok (.i2l, 1) := by decide +kernel
theorem dX0_tellsBest_36 : decode cX0_tellsBest 36 = .ok (.lmul, 1) := by decide +kernel
theorem dX0_tellsBest_37 : decode cX0_tellsBest 37 = .ok (.ldc2_w 80, 3) := by decide +kernel
theorem dX0_tellsBest_40 : decode cX0_tellsBest 40 = .ok (.lcmp, 1) := by decide +kernel
theorem dX0_tellsBest_41 : decode cX0_tellsBest 41 = .ok (.ifCond .le 5, 3) := by decide +kernel
theorem dX0_tellsBest_44 : decode cX0_tellsBest 44 = .ok (.iconst 0, 1) := by decide +kernel
theorem dX0_tellsBest_45 : decode cX0_tellsBest 45 = .ok (.ireturn, 1) := by decide +kernel
theorem dX0_tellsBest_46 : decode cX0_tellsBest 46 = .ok (.lload_n 1, 1) := by decide +kernel
theorem dX0_tellsBest_47 : decode cX0_tellsBest 47 = .ok (.iload 6, 2) := by decide +kernel
theorem dX0_tellsBest_49 : decode cX0_tellsBest 49 = .ok (.aload_n 0, 1) := by decide +kernel
theorem dX0_tellsBest_50 : decode cX0_tellsBest 50 = .ok (.iload 5, 2) := by decide +kernel
theorem dX0_tellsBest_52 : decode cX0_tellsBest 52 = .ok (.invokevirtual 82, 3) := by decide +kernel
theorem dX0_tellsBest_55 : decode cX0_tellsBest 55 = .ok (.isub, 1) := by decide +kernel
theorem dX0_tellsBest_56 : decode cX0_tellsBest 56 = .ok (.i2l, 1) := by decide +kernel
theorem dX0_tellsBest_57 : decode cX0_tellsBest 57 = .ok (.lmul, 1) := by decide +kernel
theorem dX0_tellsBest_58 : decode cX0_tellsBest 58 = .ok (.lstore_n 1, 1) := by decide +kernel
theorem dX0_tellsBest_59 : decode cX0_tellsBest 59 = .ok (.lload_n 3, 1) := by decide +kernel
theorem dX0_tellsBest_60 : decode cX0_tellsBest 60 = .ok (.iload 6, 2) := by decide +kernel
theorem dX0_tellsBest_62 : decode cX0_tellsBest 62 = .ok (.i2l, 1) := by decide +kernel
theorem dX0_tellsBest_63 : decode cX0_tellsBest 63 = .ok (.lmul, 1) := by decide +kernel
theorem dX0_tellsBest_64 : decode cX0_tellsBest 64 = .ok (.lstore_n 3, 1) := by decide +kernel
theorem dX0_tellsBest_65 : decode cX0_tellsBest 65 = .ok (.iinc 5 1, 3) := by decide +kernel
theorem dX0_tellsBest_68 : decode cX0_tellsBest 68 = .ok (.goto (-61), 3) := by decide +kernel
theorem dX0_tellsBest_71 : decode cX0_tellsBest 71 = .ok (.aload_n 0, 1) := by decide +kernel
theorem dX0_tellsBest_72 : decode cX0_tellsBest 72 = .ok (.aload_n 0, 1) := by decide +kernel
theorem dX0_tellsBest_73 : decode cX0_tellsBest 73 = .ok (.invokevirtual 85, 3) := by decide +kernel
theorem dX0_tellsBest_76 : decode cX0_tellsBest 76 = .ok (.ifCond .eq 9, 3) := by decide +kernel
theorem dX0_tellsBest_79 : decode cX0_tellsBest 79 = .ok (.lload_n 3, 1) := by decide +kernel
theorem dX0_tellsBest_80 : decode cX0_tellsBest 80 = .ok (.lload_n 1, 1) := by decide +kernel
theorem dX0_tellsBest_81 : decode cX0_tellsBest 81 = .ok (.lsub, 1) := by decide +kernel
theorem dX0_tellsBest_82 : decode cX0_tellsBest 82 = .ok (.goto 4, 3) := by decide +kernel
theorem dX0_tellsBest_85 : decode cX0_tellsBest 85 = .ok (.lload_n 3, 1) := by decide +kernel
theorem dX0_tellsBest_86 : decode cX0_tellsBest 86 = .ok (.lload_n 3, 1) := by decide +kernel
theorem dX0_tellsBest_87 : decode cX0_tellsBest 87 = .ok (.invokevirtual 89, 3) := by decide +kernel
theorem dX0_tellsBest_90 : decode cX0_tellsBest 90 = .ok (.iconst 1, 1) := by decide +kernel
theorem dX0_tellsBest_91 : decode cX0_tellsBest 91 = .ok (.ireturn, 1) := by decide +kernel
theorem dX0_tellsBound_0 : decode cX0_tellsBound 0 = .ok (.lconst 0, 1) := by decide +kernel
theorem dX0_tellsBound_1 : decode cX0_tellsBound 1 = .ok (.lstore_n 1, 1) := by decide +kernel
theorem dX0_tellsBound_2 : decode cX0_tellsBound 2 = .ok (.lconst 1, 1) := by decide +kernel
theorem dX0_tellsBound_3 : decode cX0_tellsBound 3 = .ok (.lstore_n 3, 1) := by decide +kernel
theorem dX0_tellsBound_4 : decode cX0_tellsBound 4 = .ok (.iconst 0, 1) := by decide +kernel
theorem dX0_tellsBound_5 : decode cX0_tellsBound 5 = .ok (.istore 5, 2) := by decide +kernel
theorem dX0_tellsBound_7 : decode cX0_tellsBound 7 = .ok (.iload 5, 2) := by decide +kernel
theorem dX0_tellsBound_9 : decode cX0_tellsBound 9 = .ok (.aload_n 0, 1) := by decide +kernel
theorem dX0_tellsBound_10 : decode cX0_tellsBound 10 = .ok (.invokevirtual 37, 3) := by decide +kernel
theorem dX0_tellsBound_13 : decode cX0_tellsBound 13 = .ok (.if_icmp .ge 79, 3) := by decide +kernel
theorem dX0_tellsBound_16 : decode cX0_tellsBound 16 = .ok (.aload_n 0, 1) := by decide +kernel
theorem dX0_tellsBound_17 : decode cX0_tellsBound 17 = .ok (.iload 5, 2) := by decide +kernel
theorem dX0_tellsBound_19 : decode cX0_tellsBound 19 = .ok (.invokevirtual 66, 3) := by decide +kernel
theorem dX0_tellsBound_22 : decode cX0_tellsBound 22 = .ok (.istore 6, 2) := by decide +kernel
theorem dX0_tellsBound_24 : decode cX0_tellsBound 24 = .ok (.aload_n 0, 1) := by decide +kernel
theorem dX0_tellsBound_25 : decode cX0_tellsBound 25 = .ok (.iload 5, 2) := by decide +kernel
theorem dX0_tellsBound_27 : decode cX0_tellsBound 27 = .ok (.invokevirtual 71, 3) := by decide +kernel
theorem dX0_tellsBound_30 : decode cX0_tellsBound 30 = .ok (.ifCond .eq 12, 3) := by decide +kernel
theorem dX0_tellsBound_33 : decode cX0_tellsBound 33 = .ok (.aload_n 0, 1) := by decide +kernel
theorem dX0_tellsBound_34 : decode cX0_tellsBound 34 = .ok (.iload 5, 2) := by decide +kernel
theorem dX0_tellsBound_36 : decode cX0_tellsBound 36 = .ok (.invokevirtual 59, 3) := by decide +kernel
theorem dX0_tellsBound_39 : decode cX0_tellsBound 39 = .ok (.goto 5, 3) := by decide +kernel
theorem dX0_tellsBound_42 : decode cX0_tellsBound 42 = .ok (.iload 6, 2) := by decide +kernel
theorem dX0_tellsBound_44 : decode cX0_tellsBound 44 = .ok (.istore 7, 2) := by decide +kernel
theorem dX0_tellsBound_46 : decode cX0_tellsBound 46 = .ok (.iload 6, 2) := by decide +kernel
theorem dX0_tellsBound_48 : decode cX0_tellsBound 48 = .ok (.sipush 1000, 3) := by decide +kernel
theorem dX0_tellsBound_51 : decode cX0_tellsBound 51 = .ok (.if_icmp .gt 15, 3) := by decide +kernel
theorem dX0_tellsBound_54 : decode cX0_tellsBound 54 = .ok (.lload_n 3, 1) := by decide +kernel
theorem dX0_tellsBound_55 : decode cX0_tellsBound 55 = .ok (.iload 6, 2) := by decide +kernel
theorem dX0_tellsBound_57 : decode cX0_tellsBound 57 = .ok (.i2l, 1) := by decide +kernel
theorem dX0_tellsBound_58 : decode cX0_tellsBound 58 = .ok (.lmul, 1) := by decide +kernel
theorem dX0_tellsBound_59 : decode cX0_tellsBound 59 = .ok (.ldc2_w 80, 3) := by decide +kernel
theorem dX0_tellsBound_62 : decode cX0_tellsBound 62 = .ok (.lcmp, 1) := by decide +kernel
theorem dX0_tellsBound_63 : decode cX0_tellsBound 63 = .ok (.ifCond .le 5, 3) := by decide +kernel
theorem dX0_tellsBound_66 : decode cX0_tellsBound 66 = .ok (.iconst 0, 1) := by decide +kernel
theorem dX0_tellsBound_67 : decode cX0_tellsBound 67 = .ok (.ireturn, 1) := by decide +kernel
theorem dX0_tellsBound_68 : decode cX0_tellsBound 68 = .ok (.lload_n 1, 1) := by decide +kernel
theorem dX0_tellsBound_69 : decode cX0_tellsBound 69 = .ok (.iload 6, 2) := by decide +kernel
theorem dX0_tellsBound_71 : decode cX0_tellsBound 71 = .ok (.i2l, 1) := by decide +kernel
theorem dX0_tellsBound_72 : decode cX0_tellsBound 72 = .ok (.lmul, 1) := by decide +kernel
theorem dX0_tellsBound_73 : decode cX0_tellsBound 73 = .ok (.iload 7, 2) := by decide +kernel
theorem dX0_tellsBound_75 : decode cX0_tellsBound 75 = .ok (.i2l, 1) := by decide +kernel
theorem dX0_tellsBound_76 : decode cX0_tellsBound 76 = .ok (.lload_n 3, 1) := by decide +kernel
theorem dX0_tellsBound_77 : decode cX0_tellsBound 77 = .ok (.lmul, 1) := by decide +kernel
theorem dX0_tellsBound_78 : decode cX0_tellsBound 78 = .ok (.ladd, 1) := by decide +kernel
theorem dX0_tellsBound_79 : decode cX0_tellsBound 79 = .ok (.lstore_n 1, 1) := by decide +kernel
theorem dX0_tellsBound_80 : decode cX0_tellsBound 80 = .ok (.lload_n 3, 1) := by decide +kernel
theorem dX0_tellsBound_81 : decode cX0_tellsBound 81 = .ok (.iload 6, 2) := by decide +kernel
theorem dX0_tellsBound_83 : decode cX0_tellsBound 83 = .ok (.i2l, 1) := by decide +kernel
theorem dX0_tellsBound_84 : decode cX0_tellsBound 84 = .ok (.lmul, 1) := by decide +kernel
theorem dX0_tellsBound_85 : decode cX0_tellsBound 85 = .ok (.lstore_n 3, 1) := by decide +kernel
theorem dX0_tellsBound_86 : decode cX0_tellsBound 86 = .ok (.iinc 5 1, 3) := by decide +kernel
theorem dX0_tellsBound_89 : decode cX0_tellsBound 89 = .ok (.goto (-82), 3) := by decide +kernel
theorem dX0_tellsBound_92 : decode cX0_tellsBound 92 = .ok (.aload_n 0, 1) := by decide +kernel
theorem dX0_tellsBound_93 : decode cX0_tellsBound 93 = .ok (.aload_n 0, 1) := by decide +kernel
theorem dX0_tellsBound_94 : decode cX0_tellsBound 94 = .ok (.invokevirtual 85, 3) := by decide +kernel
theorem dX0_tellsBound_97 : decode cX0_tellsBound 97 = .ok (.ifCond .eq 11, 3) := by decide +kernel
theorem dX0_tellsBound_100 : decode cX0_tellsBound 100 = .ok (.lload_n 1, 1) := by decide +kernel
theorem dX0_tellsBound_101 : decode cX0_tellsBound 101 = .ok (.lload_n 3, 1) := by decide +kernel
theorem dX0_tellsBound_102 : decode cX0_tellsBound 102 = .ok (.invokestatic 41, 3) := by decide +kernel
theorem dX0_tellsBound_105 : decode cX0_tellsBound 105 = .ok (.goto 4, 3) := by decide +kernel
theorem dX0_tellsBound_108 : decode cX0_tellsBound 108 = .ok (.lload_n 3, 1) := by decide +kernel
theorem dX0_tellsBound_109 : decode cX0_tellsBound 109 = .ok (.lload_n 3, 1) := by decide +kernel
theorem dX0_tellsBound_110 : decode cX0_tellsBound 110 = .ok (.invokevirtual 89, 3) := by decide +kernel
theorem dX0_tellsBound_113 : decode cX0_tellsBound 113 = .ok (.iconst 1, 1) := by decide +kernel
theorem dX0_tellsBound_114 : decode cX0_tellsBound 114 = .ok (.ireturn, 1) := by decide +kernel
theorem dX0_setFraction_0 : decode cX0_setFraction 0 = .ok (.lload_n 3, 1) := by decide +kernel
theorem dX0_setFraction_1 : decode cX0_setFraction 1 = .ok (.lstore 5, 2) := by decide +kernel
theorem dX0_setFraction_3 : decode cX0_setFraction 3 = .ok (.lload_n 1, 1) := by decide +kernel
theorem dX0_setFraction_4 : decode cX0_setFraction 4 = .ok (.lstore 7, 2) := by decide +kernel
theorem dX0_setFraction_6 : decode cX0_setFraction 6 = .ok (.sipush 200, 3) := by decide +kernel
theorem dX0_setFraction_9 : decode cX0_setFraction 9 = .ok (.istore 9, 2) := by decide +kernel
theorem dX0_setFraction_11 : decode cX0_setFraction 11 = .ok (.iload 9, 2) := by decide +kernel
theorem dX0_setFraction_13 : decode cX0_setFraction 13 = .ok (.ifCond .le 31, 3) := by decide +kernel
theorem dX0_setFraction_16 : decode cX0_setFraction 16 = .ok (.lload 7, 2) := by decide +kernel
theorem dX0_setFraction_18 : decode cX0_setFraction 18 = .ok (.lconst 0, 1) := by decide +kernel
theorem dX0_setFraction_19 : decode cX0_setFraction 19 = .ok (.lcmp, 1) := by decide +kernel
theorem dX0_setFraction_20 : decode cX0_setFraction 20 = .ok (.ifCond .le 24, 3) := by decide +kernel
theorem dX0_setFraction_23 : decode cX0_setFraction 23 = .ok (.lload 5, 2) := by decide +kernel
theorem dX0_setFraction_25 : decode cX0_setFraction 25 = .ok (.lload 7, 2) := by decide +kernel
theorem dX0_setFraction_27 : decode cX0_setFraction 27 = .ok (.lrem, 1) := by decide +kernel
theorem dX0_setFraction_28 : decode cX0_setFraction 28 = .ok (.lstore 10, 2) := by decide +kernel
theorem dX0_setFraction_30 : decode cX0_setFraction 30 = .ok (.lload 7, 2) := by decide +kernel
theorem dX0_setFraction_32 : decode cX0_setFraction 32 = .ok (.lstore 5, 2) := by decide +kernel
theorem dX0_setFraction_34 : decode cX0_setFraction 34 = .ok (.lload 10, 2) := by decide +kernel
theorem dX0_setFraction_36 : decode cX0_setFraction 36 = .ok (.lstore 7, 2) := by decide +kernel
theorem dX0_setFraction_38 : decode cX0_setFraction 38 = .ok (.iinc 9 (-1), 3) := by decide +kernel
theorem dX0_setFraction_41 : decode cX0_setFraction 41 = .ok (.goto (-30), 3) := by decide +kernel
theorem dX0_setFraction_44 : decode cX0_setFraction 44 = .ok (.aload_n 0, 1) := by decide +kernel
theorem dX0_setFraction_45 : decode cX0_setFraction 45 = .ok (.lload 5, 2) := by decide +kernel
theorem dX0_setFraction_47 : decode cX0_setFraction 47 = .ok (.lconst 1, 1) := by decide +kernel
theorem dX0_setFraction_48 : decode cX0_setFraction 48 = .ok (.lcmp, 1) := by decide +kernel
theorem dX0_setFraction_49 : decode cX0_setFraction 49 = .ok (.ifCond .ge 7, 3) := by decide +kernel
theorem dX0_setFraction_52 : decode cX0_setFraction 52 = .ok (.lload_n 1, 1) := by decide +kernel
theorem dX0_setFraction_53 : decode cX0_setFraction 53 = .ok (.goto 7, 3) := by decide +kernel
theorem dX0_setFraction_56 : decode cX0_setFraction 56 = .ok (.lload_n 1, 1) := by decide +kernel
theorem dX0_setFraction_57 : decode cX0_setFraction 57 = .ok (.lload 5, 2) := by decide +kernel
theorem dX0_setFraction_59 : decode cX0_setFraction 59 = .ok (.ldiv, 1) := by decide +kernel
theorem dX0_setFraction_60 : decode cX0_setFraction 60 = .ok (.putfield 93, 3) := by decide +kernel
theorem dX0_setFraction_63 : decode cX0_setFraction 63 = .ok (.aload_n 0, 1) := by decide +kernel
theorem dX0_setFraction_64 : decode cX0_setFraction 64 = .ok (.lload 5, 2) := by decide +kernel
theorem dX0_setFraction_66 : decode cX0_setFraction 66 = .ok (.lconst 1, 1) := by decide +kernel
theorem dX0_setFraction_67 : decode cX0_setFraction 67 = .ok (.lcmp, 1) := by decide +kernel
theorem dX0_setFraction_68 : decode cX0_setFraction 68 = .ok (.ifCond .ge 7, 3) := by decide +kernel
theorem dX0_setFraction_71 : decode cX0_setFraction 71 = .ok (.lload_n 3, 1) := by decide +kernel
theorem dX0_setFraction_72 : decode cX0_setFraction 72 = .ok (.goto 7, 3) := by decide +kernel
theorem dX0_setFraction_75 : decode cX0_setFraction 75 = .ok (.lload_n 3, 1) := by decide +kernel
theorem dX0_setFraction_76 : decode cX0_setFraction 76 = .ok (.lload 5, 2) := by decide +kernel
theorem dX0_setFraction_78 : decode cX0_setFraction 78 = .ok (.ldiv, 1) := by decide +kernel
theorem dX0_setFraction_79 : decode cX0_setFraction 79 = .ok (.putfield 97, 3) := by decide +kernel
theorem dX0_setFraction_82 : decode cX0_setFraction 82 = .ok (.return_, 1) := by decide +kernel
theorem dX0_fraction_0 : decode cX0_fraction 0 = .ok (.iload_n 1, 1) := by decide +kernel
theorem dX0_fraction_1 : decode cX0_fraction 1 = .ok (.ifCond .ne 8, 3) := by decide +kernel
theorem dX0_fraction_4 : decode cX0_fraction 4 = .ok (.aload_n 0, 1) := by decide +kernel
theorem dX0_fraction_5 : decode cX0_fraction 5 = .ok (.getfield 93, 3) := by decide +kernel
theorem dX0_fraction_8 : decode cX0_fraction 8 = .ok (.lreturn, 1) := by decide +kernel
theorem dX0_fraction_9 : decode cX0_fraction 9 = .ok (.iload_n 1, 1) := by decide +kernel
theorem dX0_fraction_10 : decode cX0_fraction 10 = .ok (.iconst 1, 1) := by decide +kernel
theorem dX0_fraction_11 : decode cX0_fraction 11 = .ok (.if_icmp .ne 10, 3) := by decide +kernel
theorem dX0_fraction_14 : decode cX0_fraction 14 = .ok (.aload_n 0, 1) := by decide +kernel
theorem dX0_fraction_15 : decode cX0_fraction 15 = .ok (.getfield 97, 3) := by decide +kernel
theorem dX0_fraction_18 : decode cX0_fraction 18 = .ok (.goto 6, 3) := by decide +kernel
theorem dX0_fraction_21 : decode cX0_fraction 21 = .ok (.ldc2_w 100, 3) := by decide +kernel
theorem dX0_fraction_24 : decode cX0_fraction 24 = .ok (.lreturn, 1) := by decide +kernel
theorem dX0_isAtMostOneBy_0 : decode cX0_isAtMostOneBy 0 = .ok (.iload_n 1, 1) := by decide +kernel
theorem dX0_isAtMostOneBy_1 : decode cX0_isAtMostOneBy 1 = .ok (.ifCond .le 22, 3) := by decide +kernel
theorem dX0_isAtMostOneBy_4 : decode cX0_isAtMostOneBy 4 = .ok (.aload_n 0, 1) := by decide +kernel
theorem dX0_isAtMostOneBy_5 : decode cX0_isAtMostOneBy 5 = .ok (.getfield 93, 3) := by decide +kernel
theorem dX0_isAtMostOneBy_8 : decode cX0_isAtMostOneBy 8 = .ok (.aload_n 0, 1) := by decide +kernel
theorem dX0_isAtMostOneBy_9 : decode cX0_isAtMostOneBy 9 = .ok (.getfield 97, 3) := by decide +kernel
theorem dX0_isAtMostOneBy_12 : decode cX0_isAtMostOneBy 12 = .ok (.iload_n 1, 1) := by decide +kernel
theorem dX0_isAtMostOneBy_13 : decode cX0_isAtMostOneBy 13 = .ok (.i2l, 1) := by decide +kernel
theorem dX0_isAtMostOneBy_14 : decode cX0_isAtMostOneBy 14 = .ok (.ldiv, 1) := by decide +kernel
theorem dX0_isAtMostOneBy_15 : decode cX0_isAtMostOneBy 15 = .ok (.lcmp, 1) := by decide +kernel
theorem dX0_isAtMostOneBy_16 : decode cX0_isAtMostOneBy 16 = .ok (.ifCond .gt 7, 3) := by decide +kernel
theorem dX0_isAtMostOneBy_19 : decode cX0_isAtMostOneBy 19 = .ok (.iconst 1, 1) := by decide +kernel
theorem dX0_isAtMostOneBy_20 : decode cX0_isAtMostOneBy 20 = .ok (.goto 4, 3) := by decide +kernel
theorem dX0_isAtMostOneBy_23 : decode cX0_isAtMostOneBy 23 = .ok (.iconst 0, 1) := by decide +kernel
theorem dX0_isAtMostOneBy_24 : decode cX0_isAtMostOneBy 24 = .ok (.ireturn, 1) := by decide +kernel
theorem dX1_init_0 : decode cX1_init 0 = .ok (.aload_n 0, 1) := by decide +kernel
theorem dX1_init_1 : decode cX1_init 1 = .ok (.invokespecial 3, 3) := by decide +kernel
theorem dX1_init_4 : decode cX1_init 4 = .ok (.aload_n 0, 1) := by decide +kernel
theorem dX1_init_5 : decode cX1_init 5 = .ok (.bipush 10, 2) := by decide +kernel
theorem dX1_init_7 : decode cX1_init 7 = .ok (.newarray .long, 2) := by decide +kernel
theorem dX1_init_9 : decode cX1_init 9 = .ok (.putfield 11, 3) := by decide +kernel
theorem dX1_init_12 : decode cX1_init 12 = .ok (.aload_n 0, 1) := by decide +kernel
theorem dX1_init_13 : decode cX1_init 13 = .ok (.bipush 6, 2) := by decide +kernel
theorem dX1_init_15 : decode cX1_init 15 = .ok (.bipush 101, 2) := by decide +kernel
theorem dX1_init_17 : decode cX1_init 17 = .ok (.multianewarray 17 2, 4) := by decide +kernel
theorem dX1_init_21 : decode cX1_init 21 = .ok (.putfield 19, 3) := by decide +kernel
theorem dX1_init_24 : decode cX1_init 24 = .ok (.aload_n 0, 1) := by decide +kernel
theorem dX1_init_25 : decode cX1_init 25 = .ok (.bipush 6, 2) := by decide +kernel
theorem dX1_init_27 : decode cX1_init 27 = .ok (.newarray .long, 2) := by decide +kernel
theorem dX1_init_29 : decode cX1_init 29 = .ok (.putfield 22, 3) := by decide +kernel
theorem dX1_init_32 : decode cX1_init 32 = .ok (.aload_n 0, 1) := by decide +kernel
theorem dX1_init_33 : decode cX1_init 33 = .ok (.bipush 101, 2) := by decide +kernel
theorem dX1_init_35 : decode cX1_init 35 = .ok (.newarray .long, 2) := by decide +kernel
theorem dX1_init_37 : decode cX1_init 37 = .ok (.putfield 25, 3) := by decide +kernel
theorem dX1_init_40 : decode cX1_init 40 = .ok (.aload_n 0, 1) := by decide +kernel
theorem dX1_init_41 : decode cX1_init 41 = .ok (.bipush 101, 2) := by decide +kernel
theorem dX1_init_43 : decode cX1_init 43 = .ok (.newarray .long, 2) := by decide +kernel
theorem dX1_init_45 : decode cX1_init 45 = .ok (.putfield 28, 3) := by decide +kernel
theorem dX1_init_48 : decode cX1_init 48 = .ok (.aload_n 0, 1) := by decide +kernel
theorem dX1_init_49 : decode cX1_init 49 = .ok (.aload_n 1, 1) := by decide +kernel
theorem dX1_init_50 : decode cX1_init 50 = .ok (.putfield 31, 3) := by decide +kernel
theorem dX1_init_53 : decode cX1_init 53 = .ok (.aload_n 0, 1) := by decide +kernel
theorem dX1_init_54 : decode cX1_init 54 = .ok (.aload_n 2, 1) := by decide +kernel
theorem dX1_init_55 : decode cX1_init 55 = .ok (.putfield 35, 3) := by decide +kernel
theorem dX1_init_58 : decode cX1_init 58 = .ok (.return_, 1) := by decide +kernel
theorem dX1_goByDraws_0 : decode cX1_goByDraws 0 = .ok (.aload_n 0, 1) := by decide +kernel
theorem dX1_goByDraws_1 : decode cX1_goByDraws 1 = .ok (.aload_n 1, 1) := by decide +kernel
theorem dX1_goByDraws_2 : decode cX1_goByDraws 2 = .ok (.iload 4, 2) := by decide +kernel
theorem dX1_goByDraws_4 : decode cX1_goByDraws 4 = .ok (.invokevirtual 39, 3) := by decide +kernel
theorem dX1_goByDraws_7 : decode cX1_goByDraws 7 = .ok (.aload_n 0, 1) := by decide +kernel
theorem dX1_goByDraws_8 : decode cX1_goByDraws 8 = .ok (.lload_n 2, 1) := by decide +kernel
theorem dX1_goByDraws_9 : decode cX1_goByDraws 9 = .ok (.putfield 43, 3) := by decide +kernel
theorem dX1_goByDraws_12 : decode cX1_goByDraws 12 = .ok (.iconst 0, 1) := by decide +kernel
theorem dX1_goByDraws_13 : decode cX1_goByDraws 13 = .ok (.istore 5, 2) := by decide +kernel
theorem dX1_goByDraws_15 : decode cX1_goByDraws 15 = .ok (.iload 5, 2) := by decide +kernel
theorem dX1_goByDraws_17 : decode cX1_goByDraws 17 = .ok (.aload_n 1, 1) := by decide +kernel
theorem dX1_goByDraws_18 : decode cX1_goByDraws 18 = .ok (.getfield 47, 3) := by decide +kernel
theorem dX1_goByDraws_21 : decode cX1_goByDraws 21 = .ok (.getfield 53, 3) := by decide +kernel
theorem dX1_goByDraws_24 : decode cX1_goByDraws 24 = .ok (.if_icmp .ge 59, 3) := by decide +kernel
theorem dX1_goByDraws_27 : decode cX1_goByDraws 27 = .ok (.aload_n 0, 1) := by decide +kernel
theorem dX1_goByDraws_28 : decode cX1_goByDraws 28 = .ok (.aload_n 1, 1) := by decide +kernel
theorem dX1_goByDraws_29 : decode cX1_goByDraws 29 = .ok (.iload 5, 2) := by decide +kernel
theorem dX1_goByDraws_31 : decode cX1_goByDraws 31 = .ok (.invokevirtual 59, 3) := by decide +kernel
theorem dX1_goByDraws_34 : decode cX1_goByDraws 34 = .ok (.aload_n 0, 1) := by decide +kernel
theorem dX1_goByDraws_35 : decode cX1_goByDraws 35 = .ok (.aload_n 1, 1) := by decide +kernel
theorem dX1_goByDraws_36 : decode cX1_goByDraws 36 = .ok (.iload 5, 2) := by decide +kernel
theorem dX1_goByDraws_38 : decode cX1_goByDraws 38 = .ok (.invokevirtual 62, 3) := by decide +kernel
theorem dX1_goByDraws_41 : decode cX1_goByDraws 41 = .ok (.ifCond .ne 11, 3) := by decide +kernel
theorem dX1_goByDraws_44 : decode cX1_goByDraws 44 = .ok (.aload_n 0, 1) := by decide +kernel
theorem dX1_goByDraws_45 : decode cX1_goByDraws 45 = .ok (.iload 5, 2) := by decide +kernel
theorem dX1_goByDraws_47 : decode cX1_goByDraws 47 = .ok (.putfield 66, 3) := by decide +kernel
theorem dX1_goByDraws_50 : decode cX1_goByDraws 50 = .ok (.iconst 0, 1) := by decide +kernel
theorem dX1_goByDraws_51 : decode cX1_goByDraws 51 = .ok (.ireturn, 1) := by decide +kernel
theorem dX1_goByDraws_52 : decode cX1_goByDraws 52 = .ok (.aload_n 0, 1) := by decide +kernel
theorem dX1_goByDraws_53 : decode cX1_goByDraws 53 = .ok (.lconst 0, 1) := by decide +kernel
theorem dX1_goByDraws_54 : decode cX1_goByDraws 54 = .ok (.invokevirtual 69, 3) := by decide +kernel
theorem dX1_goByDraws_57 : decode cX1_goByDraws 57 = .ok (.aload_n 0, 1) := by decide +kernel
theorem dX1_goByDraws_58 : decode cX1_goByDraws 58 = .ok (.aload_n 1, 1) := by decide +kernel
theorem dX1_goByDraws_59 : decode cX1_goByDraws 59 = .ok (.iload 5, 2) := by decide +kernel
theorem dX1_goByDraws_61 : decode cX1_goByDraws 61 = .ok (.aload_n 0, 1) := by decide +kernel
theorem dX1_goByDraws_62 : decode cX1_goByDraws 62 = .ok (.aload_n 0, 1) := by decide +kernel
theorem dX1_goByDraws_63 : decode cX1_goByDraws 63 = .ok (.getfield 35, 3) := by decide +kernel
theorem dX1_goByDraws_66 : decode cX1_goByDraws 66 = .ok (.iload 5, 2) := by decide +kernel
theorem dX1_goByDraws_68 : decode cX1_goByDraws 68 = .ok (.invokevirtual 73, 3) := by decide +kernel
theorem dX1_goByDraws_71 : decode cX1_goByDraws 71 = .ok (.invokevirtual 79, 3) := by decide +kernel
theorem dX1_goByDraws_74 : decode cX1_goByDraws 74 = .ok (.invokevirtual 82, 3) := by decide +kernel
theorem dX1_goByDraws_77 : decode cX1_goByDraws 77 = .ok (.iinc 5 1, 3) := by decide +kernel
theorem dX1_goByDraws_80 : decode cX1_goByDraws 80 = .ok (.goto (-65), 3) := by decide +kernel
theorem dX1_goByDraws_83 : decode cX1_goByDraws 83 = .ok (.aload_n 0, 1) := by decide +kernel
theorem dX1_goByDraws_84 : decode cX1_goByDraws 84 = .ok (.aload_n 1, 1) := by decide +kernel
theorem dX1_goByDraws_85 : decode cX1_goByDraws 85 = .ok (.invokevirtual 86, 3) := by decide +kernel
theorem dX1_goByDraws_88 : decode cX1_goByDraws 88 = .ok (.ireturn, 1) := by decide +kernel
theorem dX1_goFixed_0 : decode cX1_goFixed 0 = .ok (.aload_n 0, 1) := by decide +kernel
theorem dX1_goFixed_1 : decode cX1_goFixed 1 = .ok (.aload_n 1, 1) := by decide +kernel
theorem dX1_goFixed_2 : decode cX1_goFixed 2 = .ok (.iload_n 2, 1) := by decide +kernel
theorem dX1_goFixed_3 : decode cX1_goFixed 3 = .ok (.invokevirtual 39, 3) := by decide +kernel
theorem dX1_goFixed_6 : decode cX1_goFixed 6 = .ok (.aload_n 0, 1) := by decide +kernel
theorem dX1_goFixed_7 : decode cX1_goFixed 7 = .ok (.lconst 1, 1) := by decide +kernel
theorem dX1_goFixed_8 : decode cX1_goFixed 8 = .ok (.putfield 43, 3) := by decide +kernel
theorem dX1_goFixed_11 : decode cX1_goFixed 11 = .ok (.aload_n 0, 1) := by decide +kernel
theorem dX1_goFixed_12 : decode cX1_goFixed 12 = .ok (.aload_n 0, 1) := by decide +kernel
theorem dX1_goFixed_13 : decode cX1_goFixed 13 = .ok (.getfield 90, 3) := by decide +kernel
theorem dX1_goFixed_16 : decode cX1_goFixed 16 = .ok (.invokevirtual 69, 3) := by decide +kernel
theorem dX1_goFixed_19 : decode cX1_goFixed 19 = .ok (.iconst 0, 1) := by decide +kernel
theorem dX1_goFixed_20 : decode cX1_goFixed 20 = .ok (.istore_n 3, 1) := by decide +kernel
theorem dX1_goFixed_21 : decode cX1_goFixed 21 = .ok (.iload_n 3, 1) := by decide +kernel
theorem dX1_goFixed_22 : decode cX1_goFixed 22 = .ok (.aload_n 1, 1) := by decide +kernel
theorem dX1_goFixed_23 : decode cX1_goFixed 23 = .ok (.getfield 47, 3) := by decide +kernel
theorem dX1_goFixed_26 : decode cX1_goFixed 26 = .ok (.getfield 53, 3) := by decide +kernel
theorem dX1_goFixed_29 : decode cX1_goFixed 29 = .ok (.if_icmp .ge 82, 3) := by decide +kernel
theorem dX1_goFixed_32 : decode cX1_goFixed 32 = .ok (.aload_n 0, 1) := by decide +kernel
theorem dX1_goFixed_33 : decode cX1_goFixed 33 = .ok (.aload_n 1, 1) := by decide +kernel
theorem dX1_goFixed_34 : decode cX1_goFixed 34 = .ok (.iload_n 3, 1) := by decide +kernel
theorem dX1_goFixed_35 : decode cX1_goFixed 35 = .ok (.invokevirtual 59, 3) := by decide +kernel
theorem dX1_goFixed_38 : decode cX1_goFixed 38 = .ok (.iconst 0, 1) := by decide +kernel
theorem dX1_goFixed_39 : decode cX1_goFixed 39 = .ok (.istore 4, 2) := by decide +kernel
theorem dX1_goFixed_41 : decode cX1_goFixed 41 = .ok (.iload 4, 2) := by decide +kernel
theorem dX1_goFixed_43 : decode cX1_goFixed 43 = .ok (.aload_n 1, 1) := by decide +kernel
theorem dX1_goFixed_44 : decode cX1_goFixed 44 = .ok (.getfield 47, 3) := by decide +kernel
theorem dX1_goFixed_47 : decode cX1_goFixed 47 = .ok (.iload_n 3, 1) := by decide +kernel
theorem dX1_goFixed_48 : decode cX1_goFixed 48 = .ok (.invokevirtual 93, 3) := by decide +kernel
theorem dX1_goFixed_51 : decode cX1_goFixed 51 = .ok (.if_icmp .gt 20, 3) := by decide +kernel
theorem dX1_goFixed_54 : decode cX1_goFixed 54 = .ok (.aload_n 0, 1) := by decide +kernel
theorem dX1_goFixed_55 : decode cX1_goFixed 55 = .ok (.aload_n 0, 1) := by decide +kernel
theorem dX1_goFixed_56 : decode cX1_goFixed 56 = .ok (.iload_n 3, 1) := by decide +kernel
theorem dX1_goFixed_57 : decode cX1_goFixed 57 = .ok (.iload 4, 2) := by decide +kernel
theorem dX1_goFixed_59 : decode cX1_goFixed 59 = .ok (.invokevirtual 96, 3) := by decide +kernel
theorem dX1_goFixed_62 : decode cX1_goFixed 62 = .ok (.invokevirtual 69, 3) := by decide +kernel
theorem dX1_goFixed_65 : decode cX1_goFixed 65 = .ok (.iinc 4 1, 3) := by decide +kernel
theorem dX1_goFixed_68 : decode cX1_goFixed 68 = .ok (.goto (-27), 3) := by decide +kernel
theorem dX1_goFixed_71 : decode cX1_goFixed 71 = .ok (.aload_n 0, 1) := by decide +kernel
theorem dX1_goFixed_72 : decode cX1_goFixed 72 = .ok (.aload_n 1, 1) := by decide +kernel
theorem dX1_goFixed_73 : decode cX1_goFixed 73 = .ok (.iload_n 3, 1) := by decide +kernel
theorem dX1_goFixed_74 : decode cX1_goFixed 74 = .ok (.invokevirtual 62, 3) := by decide +kernel
theorem dX1_goFixed_77 : decode cX1_goFixed 77 = .ok (.ifCond .ne 10, 3) := by decide +kernel
theorem dX1_goFixed_80 : decode cX1_goFixed 80 = .ok (.aload_n 0, 1) := by decide +kernel
theorem dX1_goFixed_81 : decode cX1_goFixed 81 = .ok (.iload_n 3, 1) := by decide +kernel
theorem dX1_goFixed_82 : decode cX1_goFixed 82 = .ok (.putfield 66, 3) := by decide +kernel
theorem dX1_goFixed_85 : decode cX1_goFixed 85 = .ok (.iconst 0, 1) := by decide +kernel
theorem dX1_goFixed_86 : decode cX1_goFixed 86 = .ok (.ireturn, 1) := by decide +kernel
theorem dX1_goFixed_87 : decode cX1_goFixed 87 = .ok (.aload_n 0, 1) := by decide +kernel
theorem dX1_goFixed_88 : decode cX1_goFixed 88 = .ok (.aload_n 1, 1) := by decide +kernel
theorem dX1_goFixed_89 : decode cX1_goFixed 89 = .ok (.iload_n 3, 1) := by decide +kernel
theorem dX1_goFixed_90 : decode cX1_goFixed 90 = .ok (.aload_n 0, 1) := by decide +kernel
theorem dX1_goFixed_91 : decode cX1_goFixed 91 = .ok (.aload_n 0, 1) := by decide +kernel
theorem dX1_goFixed_92 : decode cX1_goFixed 92 = .ok (.getfield 35, 3) := by decide +kernel
theorem dX1_goFixed_95 : decode cX1_goFixed 95 = .ok (.iload_n 3, 1) := by decide +kernel
theorem dX1_goFixed_96 : decode cX1_goFixed 96 = .ok (.invokevirtual 73, 3) := by decide +kernel
theorem dX1_goFixed_99 : decode cX1_goFixed 99 = .ok (.invokevirtual 79, 3) := by decide +kernel
theorem dX1_goFixed_102 : decode cX1_goFixed 102 = .ok (.invokevirtual 82, 3) := by decide +kernel
theorem dX1_goFixed_105 : decode cX1_goFixed 105 = .ok (.iinc 3 1, 3) := by decide +kernel
theorem dX1_goFixed_108 : decode cX1_goFixed 108 = .ok (.goto (-87), 3) := by decide +kernel
theorem dX1_goFixed_111 : decode cX1_goFixed 111 = .ok (.aload_n 0, 1) := by decide +kernel
theorem dX1_goFixed_112 : decode cX1_goFixed 112 = .ok (.aload_n 1, 1) := by decide +kernel
theorem dX1_goFixed_113 : decode cX1_goFixed 113 = .ok (.invokevirtual 86, 3) := by decide +kernel
theorem dX1_goFixed_116 : decode cX1_goFixed 116 = .ok (.ireturn, 1) := by decide +kernel
theorem dX1_believedFrom_0 : decode cX1_believedFrom 0 = .ok (.iload_n 2, 1) := by decide +kernel
theorem dX1_believedFrom_1 : decode cX1_believedFrom 1 = .ok (.aload_n 1, 1) := by decide +kernel
theorem dX1_believedFrom_2 : decode cX1_believedFrom 2 = .ok (.getfield 47, 3) := by decide +kernel
theorem dX1_believedFrom_5 : decode cX1_believedFrom 5 = .ok (.getfield 53, 3) := by decide +kernel
theorem dX1_believedFrom_8 : decode cX1_believedFrom 8 = .ok (.if_icmp .ge 9, 3) := by decide +kernel
theorem dX1_believedFrom_11 : decode cX1_believedFrom 11 = .ok (.iload_n 2, 1) := by decide +kernel
theorem dX1_believedFrom_12 : decode cX1_believedFrom 12 = .ok (.bipush 6, 2) := by decide +kernel
theorem dX1_believedFrom_14 : decode cX1_believedFrom 14 = .ok (.if_icmp .lt 17, 3) := by decide +kernel
theorem dX1_believedFrom_17 : decode cX1_believedFrom 17 = .ok (.aload_n 0, 1) := by decide +kernel
theorem dX1_believedFrom_18 : decode cX1_believedFrom 18 = .ok (.aload_n 1, 1) := by decide +kernel
theorem dX1_believedFrom_19 : decode cX1_believedFrom 19 = .ok (.invokevirtual 86, 3) := by decide +kernel
theorem dX1_believedFrom_22 : decode cX1_believedFrom 22 = .ok (.ifCond .eq 7, 3) := by decide +kernel
theorem dX1_believedFrom_25 : decode cX1_believedFrom 25 = .ok (.iconst 1, 1) := by decide +kernel
theorem dX1_believedFrom_26 : decode cX1_believedFrom 26 = .ok (.goto 4, 3) := by decide +kernel
theorem dX1_believedFrom_29 : decode cX1_believedFrom 29 = .ok (.iconst 0, 1) := by decide +kernel
theorem dX1_believedFrom_30 : decode cX1_believedFrom 30 = .ok (.ireturn, 1) := by decide +kernel
theorem dX1_believedFrom_31 : decode cX1_believedFrom 31 = .ok (.aload_n 0, 1) := by decide +kernel
theorem dX1_believedFrom_32 : decode cX1_believedFrom 32 = .ok (.aload_n 1, 1) := by decide +kernel
theorem dX1_believedFrom_33 : decode cX1_believedFrom 33 = .ok (.iload_n 2, 1) := by decide +kernel
theorem dX1_believedFrom_34 : decode cX1_believedFrom 34 = .ok (.invokevirtual 59, 3) := by decide +kernel
theorem dX1_believedFrom_37 : decode cX1_believedFrom 37 = .ok (.aload_n 0, 1) := by decide +kernel
theorem dX1_believedFrom_38 : decode cX1_believedFrom 38 = .ok (.aload_n 1, 1) := by decide +kernel
theorem dX1_believedFrom_39 : decode cX1_believedFrom 39 = .ok (.iload_n 2, 1) := by decide +kernel
theorem dX1_believedFrom_40 : decode cX1_believedFrom 40 = .ok (.invokevirtual 62, 3) := by decide +kernel
theorem dX1_believedFrom_43 : decode cX1_believedFrom 43 = .ok (.ifCond .ne 5, 3) := by decide +kernel
theorem dX1_believedFrom_46 : decode cX1_believedFrom 46 = .ok (.iconst 0, 1) := by decide +kernel
theorem dX1_believedFrom_47 : decode cX1_believedFrom 47 = .ok (.ireturn, 1) := by decide +kernel
theorem dX1_believedFrom_48 : decode cX1_believedFrom 48 = .ok (.aload_n 0, 1) := by decide +kernel
theorem dX1_believedFrom_49 : decode cX1_believedFrom 49 = .ok (.getfield 35, 3) := by decide +kernel
theorem dX1_believedFrom_52 : decode cX1_believedFrom 52 = .ok (.iload_n 2, 1) := by decide +kernel
theorem dX1_believedFrom_53 : decode cX1_believedFrom 53 = .ok (.invokevirtual 73, 3) := by decide +kernel
theorem dX1_believedFrom_56 : decode cX1_believedFrom 56 = .ok (.istore_n 3, 1) := by decide +kernel
theorem dX1_believedFrom_57 : decode cX1_believedFrom 57 = .ok (.iconst 0, 1) := by decide +kernel
theorem dX1_believedFrom_58 : decode cX1_believedFrom 58 = .ok (.istore 4, 2) := by decide +kernel
theorem dX1_believedFrom_60 : decode cX1_believedFrom 60 = .ok (.iconst 0, 1) := by decide +kernel
theorem dX1_believedFrom_61 : decode cX1_believedFrom 61 = .ok (.istore 5, 2) := by decide +kernel
theorem dX1_believedFrom_63 : decode cX1_believedFrom 63 = .ok (.iload 5, 2) := by decide +kernel
theorem dX1_believedFrom_65 : decode cX1_believedFrom 65 = .ok (.iload_n 3, 1) := by decide +kernel
theorem dX1_believedFrom_66 : decode cX1_believedFrom 66 = .ok (.if_icmp .ge 38, 3) := by decide +kernel
theorem dX1_believedFrom_69 : decode cX1_believedFrom 69 = .ok (.iload 5, 2) := by decide +kernel
theorem dX1_believedFrom_71 : decode cX1_believedFrom 71 = .ok (.sipush 2000, 3) := by decide +kernel
theorem dX1_believedFrom_74 : decode cX1_believedFrom 74 = .ok (.if_icmp .ge 30, 3) := by decide +kernel
theorem dX1_believedFrom_77 : decode cX1_believedFrom 77 = .ok (.aload_n 0, 1) := by decide +kernel
theorem dX1_believedFrom_78 : decode cX1_believedFrom 78 = .ok (.aload_n 1, 1) := by decide +kernel
theorem dX1_believedFrom_79 : decode cX1_believedFrom 79 = .ok (.iload_n 2, 1) := by decide +kernel
theorem dX1_believedFrom_80 : decode cX1_believedFrom 80 = .ok (.iload 5, 2) := by decide +kernel
theorem dX1_believedFrom_82 : decode cX1_believedFrom 82 = .ok (.invokevirtual 82, 3) := by decide +kernel
theorem dX1_believedFrom_85 : decode cX1_believedFrom 85 = .ok (.iload 4, 2) := by decide +kernel
theorem dX1_believedFrom_87 : decode cX1_believedFrom 87 = .ok (.aload_n 0, 1) := by decide +kernel
theorem dX1_believedFrom_88 : decode cX1_believedFrom 88 = .ok (.aload_n 1, 1) := by decide +kernel
theorem dX1_believedFrom_89 : decode cX1_believedFrom 89 = .ok (.iload_n 2, 1) := by decide +kernel
theorem dX1_believedFrom_90 : decode cX1_believedFrom 90 = .ok (.iconst 1, 1) := by decide +kernel
theorem dX1_believedFrom_91 : decode cX1_believedFrom 91 = .ok (.iadd, 1) := by decide +kernel
theorem dX1_believedFrom_92 : decode cX1_believedFrom 92 = .ok (.invokevirtual 100, 3) := by decide +kernel
theorem dX1_believedFrom_95 : decode cX1_believedFrom 95 = .ok (.iadd, 1) := by decide +kernel
theorem dX1_believedFrom_96 : decode cX1_believedFrom 96 = .ok (.istore 4, 2) := by decide +kernel
theorem dX1_believedFrom_98 : decode cX1_believedFrom 98 = .ok (.iinc 5 1, 3) := by decide +kernel
theorem dX1_believedFrom_101 : decode cX1_believedFrom 101 = .ok (.goto (-38), 3) := by decide +kernel
theorem dX1_believedFrom_104 : decode cX1_believedFrom 104 = .ok (.iload 4, 2) := by decide +kernel
theorem dX1_believedFrom_106 : decode cX1_believedFrom 106 = .ok (.ireturn, 1) := by decide +kernel
theorem dX1_open_0 : decode cX1_open 0 = .ok (.aload_n 0, 1) := by decide +kernel
theorem dX1_open_1 : decode cX1_open 1 = .ok (.getfield 35, 3) := by decide +kernel
theorem dX1_open_4 : decode cX1_open 4 = .ok (.aload_n 1, 1) := by decide +kernel
theorem dX1_open_5 : decode cX1_open 5 = .ok (.getfield 47, 3) := by decide +kernel
theorem dX1_open_8 : decode cX1_open 8 = .ok (.aload_n 1, 1) := by decide +kernel
theorem dX1_open_9 : decode cX1_open 9 = .ok (.getfield 104, 3) := by decide +kernel
theorem dX1_open_12 : decode cX1_open 12 = .ok (.aload_n 1, 1) := by decide +kernel
theorem dX1_open_13 : decode cX1_open 13 = .ok (.getfield 108, 3) := by decide +kernel
theorem dX1_open_16 : decode cX1_open 16 = .ok (.invokevirtual 111, 3) := by decide +kernel
theorem dX1_open_19 : decode cX1_open 19 = .ok (.aload_n 0, 1) := by decide +kernel
theorem dX1_open_20 : decode cX1_open 20 = .ok (.aload_n 1, 1) := by decide +kernel
theorem dX1_open_21 : decode cX1_open 21 = .ok (.putfield 115, 3) := by decide +kernel
theorem dX1_open_24 : decode cX1_open 24 = .ok (.aload_n 0, 1) := by decide +kernel
theorem dX1_open_25 : decode cX1_open 25 = .ok (.iconst (-1), 1) := by decide +kernel
theorem dX1_open_26 : decode cX1_open 26 = .ok (.putfield 66, 3) := by decide +kernel
theorem dX1_open_29 : decode cX1_open 29 = .ok (.aload_n 0, 1) := by decide +kernel
theorem dX1_open_30 : decode cX1_open 30 = .ok (.iconst 0, 1) := by decide +kernel
theorem dX1_open_31 : decode cX1_open 31 = .ok (.putfield 119, 3) := by decide +kernel
theorem dX1_open_34 : decode cX1_open 34 = .ok (.aload_n 0, 1) := by decide +kernel
theorem dX1_open_35 : decode cX1_open 35 = .ok (.iconst 0, 1) := by decide +kernel
theorem dX1_open_36 : decode cX1_open 36 = .ok (.putfield 122, 3) := by decide +kernel
theorem dX1_open_39 : decode cX1_open 39 = .ok (.aload_n 0, 1) := by decide +kernel
theorem dX1_open_40 : decode cX1_open 40 = .ok (.getfield 11, 3) := by decide +kernel
theorem dX1_open_43 : decode cX1_open 43 = .ok (.lconst 0, 1) := by decide +kernel
theorem dX1_open_44 : decode cX1_open 44 = .ok (.invokestatic 125, 3) := by decide +kernel
theorem dX1_open_47 : decode cX1_open 47 = .ok (.aload_n 1, 1) := by decide +kernel
theorem dX1_open_48 : decode cX1_open 48 = .ok (.getfield 47, 3) := by decide +kernel
theorem dX1_open_51 : decode cX1_open 51 = .ok (.getfield 131, 3) := by decide +kernel
theorem dX1_open_54 : decode cX1_open 54 = .ok (.i2l, 1) := by decide +kernel
theorem dX1_open_55 : decode cX1_open 55 = .ok (.aload_n 1, 1) := by decide +kernel
theorem dX1_open_56 : decode cX1_open 56 = .ok (.getfield 108, 3) := by decide +kernel
theorem dX1_open_59 : decode cX1_open 59 = .ok (.i2l, 1) := by decide +kernel
theorem dX1_open_60 : decode cX1_open 60 = .ok (.invokestatic 134, 3) := by decide +kernel
theorem dX1_open_63 : decode cX1_open 63 = .ok (.lstore_n 3, 1) := by decide +kernel
theorem dX1_open_64 : decode cX1_open 64 = .ok (.aload_n 0, 1) := by decide +kernel
theorem dX1_open_65 : decode cX1_open 65 = .ok (.getfield 11, 3) := by decide +kernel
theorem dX1_open_68 : decode cX1_open 68 = .ok (.iconst 0, 1) := by decide +kernel
theorem dX1_open_69 : decode cX1_open 69 = .ok (.lload_n 3, 1) := by decide +kernel
theorem dX1_open_70 : decode cX1_open 70 = .ok (.lastore, 1) := by decide +kernel
theorem dX1_open_71 : decode cX1_open 71 = .ok (.aload_n 0, 1) := by decide +kernel
theorem dX1_open_72 : decode cX1_open 72 = .ok (.getfield 11, 3) := by decide +kernel
theorem dX1_open_75 : decode cX1_open 75 = .ok (.iconst 1, 1) := by decide +kernel
theorem dX1_open_76 : decode cX1_open 76 = .ok (.lload_n 3, 1) := by decide +kernel
theorem dX1_open_77 : decode cX1_open 77 = .ok (.lastore, 1) := by decide +kernel
theorem dX1_open_78 : decode cX1_open 78 = .ok (.aload_n 0, 1) := by decide +kernel
theorem dX1_open_79 : decode cX1_open 79 = .ok (.getfield 11, 3) := by decide +kernel
theorem dX1_open_82 : decode cX1_open 82 = .ok (.iconst 2, 1) := by decide +kernel
theorem dX1_open_83 : decode cX1_open 83 = .ok (.lload_n 3, 1) := by decide +kernel
theorem dX1_open_84 : decode cX1_open 84 = .ok (.lastore, 1) := by decide +kernel
theorem dX1_open_85 : decode cX1_open 85 = .ok (.aload_n 0, 1) := by decide +kernel
theorem dX1_open_86 : decode cX1_open 86 = .ok (.getfield 11, 3) := by decide +kernel
theorem dX1_open_89 : decode cX1_open 89 = .ok (.bipush 6, 2) := by decide +kernel
theorem dX1_open_91 : decode cX1_open 91 = .ok (.aload_n 1, 1) := by decide +kernel
theorem dX1_open_92 : decode cX1_open 92 = .ok (.getfield 47, 3) := by decide +kernel
theorem dX1_open_95 : decode cX1_open 95 = .ok (.getfield 53, 3) := by decide +kernel
theorem dX1_open_98 : decode cX1_open 98 = .ok (.i2l, 1) := by decide +kernel
theorem dX1_open_99 : decode cX1_open 99 = .ok (.lastore, 1) := by decide +kernel
theorem dX1_open_100 : decode cX1_open 100 = .ok (.aload_n 0, 1) := by decide +kernel
theorem dX1_open_101 : decode cX1_open 101 = .ok (.getfield 11, 3) := by decide +kernel
theorem dX1_open_104 : decode cX1_open 104 = .ok (.bipush 7, 2) := by decide +kernel
theorem dX1_open_106 : decode cX1_open 106 = .ok (.aload_n 1, 1) := by decide +kernel
theorem dX1_open_107 : decode cX1_open 107 = .ok (.getfield 108, 3) := by decide +kernel
theorem dX1_open_110 : decode cX1_open 110 = .ok (.i2l, 1) := by decide +kernel
theorem dX1_open_111 : decode cX1_open 111 = .ok (.lastore, 1) := by decide +kernel
theorem dX1_open_112 : decode cX1_open 112 = .ok (.aload_n 0, 1) := by decide +kernel
theorem dX1_open_113 : decode cX1_open 113 = .ok (.getfield 11, 3) := by decide +kernel
theorem dX1_open_116 : decode cX1_open 116 = .ok (.bipush 8, 2) := by decide +kernel
theorem dX1_open_118 : decode cX1_open 118 = .ok (.iload_n 2, 1) := by decide +kernel
theorem dX1_open_119 : decode cX1_open 119 = .ok (.i2l, 1) := by decide +kernel
theorem dX1_open_120 : decode cX1_open 120 = .ok (.lastore, 1) := by decide +kernel
theorem dX1_open_121 : decode cX1_open 121 = .ok (.aload_n 0, 1) := by decide +kernel
theorem dX1_open_122 : decode cX1_open 122 = .ok (.aload_n 0, 1) := by decide +kernel
theorem dX1_open_123 : decode cX1_open 123 = .ok (.aload_n 1, 1) := by decide +kernel
theorem dX1_open_124 : decode cX1_open 124 = .ok (.bipush 115, 2) := by decide +kernel
theorem dX1_open_126 : decode cX1_open 126 = .ok (.invokevirtual 140, 3) := by decide +kernel
theorem dX1_open_129 : decode cX1_open 129 = .ok (.putfield 90, 3) := by decide +kernel
theorem dX1_open_132 : decode cX1_open 132 = .ok (.aload_n 0, 1) := by decide +kernel
theorem dX1_open_133 : decode cX1_open 133 = .ok (.aload_n 0, 1) := by decide +kernel
theorem dX1_open_134 : decode cX1_open 134 = .ok (.getfield 90, 3) := by decide +kernel
theorem dX1_open_137 : decode cX1_open 137 = .ok (.putfield 144, 3) := by decide +kernel
theorem dX1_open_140 : decode cX1_open 140 = .ok (.return_, 1) := by decide +kernel
theorem dX1_saidBy_0 : decode cX1_saidBy 0 = .ok (.aload_n 0, 1) := by decide +kernel
theorem dX1_saidBy_1 : decode cX1_saidBy 1 = .ok (.getfield 31, 3) := by decide +kernel
theorem dX1_saidBy_4 : decode cX1_saidBy 4 = .ok (.aload_n 1, 1) := by decide +kernel
theorem dX1_saidBy_5 : decode cX1_saidBy 5 = .ok (.getfield 147, 3) := by decide +kernel
theorem dX1_saidBy_8 : decode cX1_saidBy 8 = .ok (.iload_n 2, 1) := by decide +kernel
theorem dX1_saidBy_9 : decode cX1_saidBy 9 = .ok (.aload_n 0, 1) := by decide +kernel
theorem dX1_saidBy_10 : decode cX1_saidBy 10 = .ok (.getfield 11, 3) := by decide +kernel
theorem dX1_saidBy_13 : decode cX1_saidBy 13 = .ok (.invokevirtual 150, 3) := by decide +kernel
theorem dX1_saidBy_16 : decode cX1_saidBy 16 = .ok (.aload_n 1, 1) := by decide +kernel
theorem dX1_saidBy_17 : decode cX1_saidBy 17 = .ok (.getfield 108, 3) := by decide +kernel
theorem dX1_saidBy_20 : decode cX1_saidBy 20 = .ok (.i2l, 1) := by decide +kernel
theorem dX1_saidBy_21 : decode cX1_saidBy 21 = .ok (.invokestatic 134, 3) := by decide +kernel
theorem dX1_saidBy_24 : decode cX1_saidBy 24 = .ok (.lreturn, 1) := by decide +kernel
theorem dX1_sayCurve_0 : decode cX1_sayCurve 0 = .ok (.aload_n 0, 1) := by decide +kernel
theorem dX1_sayCurve_1 : decode cX1_sayCurve 1 = .ok (.aload_n 1, 1) := by decide +kernel
theorem dX1_sayCurve_2 : decode cX1_sayCurve 2 = .ok (.iload_n 2, 1) := by decide +kernel
theorem dX1_sayCurve_3 : decode cX1_sayCurve 3 = .ok (.invokevirtual 154, 3) := by decide +kernel
theorem dX1_sayCurve_6 : decode cX1_sayCurve 6 = .ok (.astore_n 3, 1) := by decide +kernel
theorem dX1_sayCurve_7 : decode cX1_sayCurve 7 = .ok (.aload_n 0, 1) := by decide +kernel
theorem dX1_sayCurve_8 : decode cX1_sayCurve 8 = .ok (.getfield 11, 3) := by decide +kernel
theorem dX1_sayCurve_11 : decode cX1_sayCurve 11 = .ok (.iconst 1, 1) := by decide +kernel
theorem dX1_sayCurve_12 : decode cX1_sayCurve 12 = .ok (.aload_n 0, 1) := by decide +kernel
theorem dX1_sayCurve_13 : decode cX1_sayCurve 13 = .ok (.getfield 90, 3) := by decide +kernel
theorem dX1_sayCurve_16 : decode cX1_sayCurve 16 = .ok (.lastore, 1) := by decide +kernel
theorem dX1_sayCurve_17 : decode cX1_sayCurve 17 = .ok (.aload_n 0, 1) := by decide +kernel
theorem dX1_sayCurve_18 : decode cX1_sayCurve 18 = .ok (.getfield 11, 3) := by decide +kernel
theorem dX1_sayCurve_21 : decode cX1_sayCurve 21 = .ok (.iconst 2, 1) := by decide +kernel
theorem dX1_sayCurve_22 : decode cX1_sayCurve 22 = .ok (.aload_n 3, 1) := by decide +kernel
theorem dX1_sayCurve_23 : decode cX1_sayCurve 23 = .ok (.arraylength, 1) := by decide +kernel
theorem dX1_sayCurve_24 : decode cX1_sayCurve 24 = .ok (.iconst 2, 1) := by decide +kernel
theorem dX1_sayCurve_25 : decode cX1_sayCurve 25 = .ok (.if_icmp .ge 7, 3) := by decide +kernel
theorem dX1_sayCurve_28 : decode cX1_sayCurve 28 = .ok (.lconst 0, 1) := by decide +kernel
theorem dX1_sayCurve_29 : decode cX1_sayCurve 29 = .ok (.goto 17, 3) := by decide +kernel
theorem dX1_sayCurve_32 : decode cX1_sayCurve 32 = .ok (.aload_n 3, 1) := by decide +kernel
theorem dX1_sayCurve_33 : decode cX1_sayCurve 33 = .ok (.iconst 0, 1) := by decide +kernel
theorem dX1_sayCurve_34 : decode cX1_sayCurve 34 = .ok (.laload, 1) := by decide +kernel
theorem dX1_sayCurve_35 : decode cX1_sayCurve 35 = .ok (.aload_n 3, 1) := by decide +kernel
theorem dX1_sayCurve_36 : decode cX1_sayCurve 36 = .ok (.iconst 1, 1) := by decide +kernel
theorem dX1_sayCurve_37 : decode cX1_sayCurve 37 = .ok (.laload, 1) := by decide +kernel
theorem dX1_sayCurve_38 : decode cX1_sayCurve 38 = .ok (.aload_n 1, 1) := by decide +kernel
theorem dX1_sayCurve_39 : decode cX1_sayCurve 39 = .ok (.getfield 108, 3) := by decide +kernel
theorem dX1_sayCurve_42 : decode cX1_sayCurve 42 = .ok (.i2l, 1) := by decide +kernel
theorem dX1_sayCurve_43 : decode cX1_sayCurve 43 = .ok (.invokestatic 158, 3) := by decide +kernel
theorem dX1_sayCurve_46 : decode cX1_sayCurve 46 = .ok (.lastore, 1) := by decide +kernel
theorem dX1_sayCurve_47 : decode cX1_sayCurve 47 = .ok (.aload_n 0, 1) := by decide +kernel
theorem dX1_sayCurve_48 : decode cX1_sayCurve 48 = .ok (.getfield 11, 3) := by decide +kernel
theorem dX1_sayCurve_51 : decode cX1_sayCurve 51 = .ok (.iconst 3, 1) := by decide +kernel
theorem dX1_sayCurve_52 : decode cX1_sayCurve 52 = .ok (.aload_n 0, 1) := by decide +kernel
theorem dX1_sayCurve_53 : decode cX1_sayCurve 53 = .ok (.iload_n 2, 1) := by decide +kernel
theorem dX1_sayCurve_54 : decode cX1_sayCurve 54 = .ok (.invokevirtual 162, 3) := by decide +kernel
theorem dX1_sayCurve_57 : decode cX1_sayCurve 57 = .ok (.lastore, 1) := by decide +kernel
theorem dX1_sayCurve_58 : decode cX1_sayCurve 58 = .ok (.aload_n 0, 1) := by decide +kernel
theorem dX1_sayCurve_59 : decode cX1_sayCurve 59 = .ok (.getfield 11, 3) := by decide +kernel
theorem dX1_sayCurve_62 : decode cX1_sayCurve 62 = .ok (.iconst 4, 1) := by decide +kernel
theorem dX1_sayCurve_63 : decode cX1_sayCurve 63 = .ok (.iload_n 2, 1) := by decide +kernel
theorem dX1_sayCurve_64 : decode cX1_sayCurve 64 = .ok (.i2l, 1) := by decide +kernel
theorem dX1_sayCurve_65 : decode cX1_sayCurve 65 = .ok (.lastore, 1) := by decide +kernel
theorem dX1_sayCurve_66 : decode cX1_sayCurve 66 = .ok (.iconst 0, 1) := by decide +kernel
theorem dX1_sayCurve_67 : decode cX1_sayCurve 67 = .ok (.istore 4, 2) := by decide +kernel
theorem dX1_sayCurve_69 : decode cX1_sayCurve 69 = .ok (.iload 4, 2) := by decide +kernel
theorem dX1_sayCurve_71 : decode cX1_sayCurve 71 = .ok (.aload_n 1, 1) := by decide +kernel
theorem dX1_sayCurve_72 : decode cX1_sayCurve 72 = .ok (.getfield 47, 3) := by decide +kernel
theorem dX1_sayCurve_75 : decode cX1_sayCurve 75 = .ok (.iload_n 2, 1) := by decide +kernel
theorem dX1_sayCurve_76 : decode cX1_sayCurve 76 = .ok (.invokevirtual 93, 3) := by decide +kernel
theorem dX1_sayCurve_79 : decode cX1_sayCurve 79 = .ok (.if_icmp .gt 49, 3) := by decide +kernel
theorem dX1_sayCurve_82 : decode cX1_sayCurve 82 = .ok (.iload 4, 2) := by decide +kernel
theorem dX1_sayCurve_84 : decode cX1_sayCurve 84 = .ok (.aload_n 3, 1) := by decide +kernel
theorem dX1_sayCurve_85 : decode cX1_sayCurve 85 = .ok (.arraylength, 1) := by decide +kernel
theorem dX1_sayCurve_86 : decode cX1_sayCurve 86 = .ok (.if_icmp .ge 42, 3) := by decide +kernel
theorem dX1_sayCurve_89 : decode cX1_sayCurve 89 = .ok (.aload_n 0, 1) := by decide +kernel
theorem dX1_sayCurve_90 : decode cX1_sayCurve 90 = .ok (.getfield 11, 3) := by decide +kernel
theorem dX1_sayCurve_93 : decode cX1_sayCurve 93 = .ok (.iconst 0, 1) := by decide +kernel
theorem dX1_sayCurve_94 : decode cX1_sayCurve 94 = .ok (.aload_n 3, 1) := by decide +kernel
theorem dX1_sayCurve_95 : decode cX1_sayCurve 95 = .ok (.iload 4, 2) := by decide +kernel
theorem dX1_sayCurve_97 : decode cX1_sayCurve 97 = .ok (.laload, 1) := by decide +kernel
theorem dX1_sayCurve_98 : decode cX1_sayCurve 98 = .ok (.lastore, 1) := by decide +kernel
theorem dX1_sayCurve_99 : decode cX1_sayCurve 99 = .ok (.aload_n 0, 1) := by decide +kernel
theorem dX1_sayCurve_100 : decode cX1_sayCurve 100 = .ok (.getfield 11, 3) := by decide +kernel
theorem dX1_sayCurve_103 : decode cX1_sayCurve 103 = .ok (.iconst 5, 1) := by decide +kernel
theorem dX1_sayCurve_104 : decode cX1_sayCurve 104 = .ok (.iload 4, 2) := by decide +kernel
theorem dX1_sayCurve_106 : decode cX1_sayCurve 106 = .ok (.i2l, 1) := by decide +kernel
theorem dX1_sayCurve_107 : decode cX1_sayCurve 107 = .ok (.lastore, 1) := by decide +kernel
theorem dX1_sayCurve_108 : decode cX1_sayCurve 108 = .ok (.aload_n 0, 1) := by decide +kernel
theorem dX1_sayCurve_109 : decode cX1_sayCurve 109 = .ok (.iload_n 2, 1) := by decide +kernel
theorem dX1_sayCurve_110 : decode cX1_sayCurve 110 = .ok (.iload 4, 2) := by decide +kernel
theorem dX1_sayCurve_112 : decode cX1_sayCurve 112 = .ok (.aload_n 0, 1) := by decide +kernel
theorem dX1_sayCurve_113 : decode cX1_sayCurve 113 = .ok (.aload_n 1, 1) := by decide +kernel
theorem dX1_sayCurve_114 : decode cX1_sayCurve 114 = .ok (.bipush 118, 2) := by decide +kernel
theorem dX1_sayCurve_116 : decode cX1_sayCurve 116 = .ok (.invokevirtual 140, 3) := by decide +kernel
theorem dX1_sayCurve_119 : decode cX1_sayCurve 119 = .ok (.invokevirtual 166, 3) := by decide +kernel
theorem dX1_sayCurve_122 : decode cX1_sayCurve 122 = .ok (.iinc 4 1, 3) := by decide +kernel
theorem dX1_sayCurve_125 : decode cX1_sayCurve 125 = .ok (.goto (-56), 3) := by decide +kernel
theorem dX1_sayCurve_128 : decode cX1_sayCurve 128 = .ok (.aload_n 0, 1) := by decide +kernel
theorem dX1_sayCurve_129 : decode cX1_sayCurve 129 = .ok (.iload_n 2, 1) := by decide +kernel
theorem dX1_sayCurve_130 : decode cX1_sayCurve 130 = .ok (.iconst 1, 1) := by decide +kernel
theorem dX1_sayCurve_131 : decode cX1_sayCurve 131 = .ok (.iadd, 1) := by decide +kernel
theorem dX1_sayCurve_132 : decode cX1_sayCurve 132 = .ok (.putfield 122, 3) := by decide +kernel
theorem dX1_sayCurve_135 : decode cX1_sayCurve 135 = .ok (.return_, 1) := by decide +kernel
theorem dX1_truthsOf_0 : decode cX1_truthsOf 0 = .ok (.iload_n 2, 1) := by decide +kernel
theorem dX1_truthsOf_1 : decode cX1_truthsOf 1 = .ok (.ifCond .ne 16, 3) := by decide +kernel
theorem dX1_truthsOf_4 : decode cX1_truthsOf 4 = .ok (.aload_n 0, 1) := by decide +kernel
theorem dX1_truthsOf_5 : decode cX1_truthsOf 5 = .ok (.getfield 170, 3) := by decide +kernel
theorem dX1_truthsOf_8 : decode cX1_truthsOf 8 = .ok (.aload_n 1, 1) := by decide +kernel
theorem dX1_truthsOf_9 : decode cX1_truthsOf 9 = .ok (.if_acmp .ne 8, 3) := by decide +kernel
theorem dX1_truthsOf_12 : decode cX1_truthsOf 12 = .ok (.aload_n 0, 1) := by decide +kernel
theorem dX1_truthsOf_13 : decode cX1_truthsOf 13 = .ok (.getfield 28, 3) := by decide +kernel
theorem dX1_truthsOf_16 : decode cX1_truthsOf 16 = .ok (.areturn, 1) := by decide +kernel
theorem dX1_truthsOf_17 : decode cX1_truthsOf 17 = .ok (.iload_n 2, 1) := by decide +kernel
theorem dX1_truthsOf_18 : decode cX1_truthsOf 18 = .ok (.ifCond .ne 10, 3) := by decide +kernel
theorem dX1_truthsOf_21 : decode cX1_truthsOf 21 = .ok (.aload_n 0, 1) := by decide +kernel
theorem dX1_truthsOf_22 : decode cX1_truthsOf 22 = .ok (.getfield 28, 3) := by decide +kernel
theorem dX1_truthsOf_25 : decode cX1_truthsOf 25 = .ok (.goto 7, 3) := by decide +kernel
theorem dX1_truthsOf_28 : decode cX1_truthsOf 28 = .ok (.aload_n 0, 1) := by decide +kernel
theorem dX1_truthsOf_29 : decode cX1_truthsOf 29 = .ok (.getfield 25, 3) := by decide +kernel
theorem dX1_truthsOf_32 : decode cX1_truthsOf 32 = .ok (.astore_n 3, 1) := by decide +kernel
theorem dX1_truthsOf_33 : decode cX1_truthsOf 33 = .ok (.iconst 0, 1) := by decide +kernel
theorem dX1_truthsOf_34 : decode cX1_truthsOf 34 = .ok (.istore 4, 2) := by decide +kernel
theorem dX1_truthsOf_36 : decode cX1_truthsOf 36 = .ok (.iload 4, 2) := by decide +kernel
theorem dX1_truthsOf_38 : decode cX1_truthsOf 38 = .ok (.iload_n 2, 1) := by decide +kernel
theorem dX1_truthsOf_39 : decode cX1_truthsOf 39 = .ok (.if_icmp .ge 35, 3) := by decide +kernel
theorem dX1_truthsOf_42 : decode cX1_truthsOf 42 = .ok (.iload 4, 2) := by decide +kernel
theorem dX1_truthsOf_44 : decode cX1_truthsOf 44 = .ok (.aload_n 0, 1) := by decide +kernel
theorem dX1_truthsOf_45 : decode cX1_truthsOf 45 = .ok (.getfield 22, 3) := by decide +kernel
theorem dX1_truthsOf_48 : decode cX1_truthsOf 48 = .ok (.arraylength, 1) := by decide +kernel
theorem dX1_truthsOf_49 : decode cX1_truthsOf 49 = .ok (.if_icmp .ge 25, 3) := by decide +kernel
theorem dX1_truthsOf_52 : decode cX1_truthsOf 52 = .ok (.aload_n 0, 1) := by decide +kernel
theorem dX1_truthsOf_53 : decode cX1_truthsOf 53 = .ok (.getfield 31, 3) := by decide +kernel
theorem dX1_truthsOf_56 : decode cX1_truthsOf 56 = .ok (.iload 4, 2) := by decide +kernel
theorem dX1_truthsOf_58 : decode cX1_truthsOf 58 = .ok (.aload_n 0, 1) := by decide +kernel
theorem dX1_truthsOf_59 : decode cX1_truthsOf 59 = .ok (.getfield 22, 3) := by decide +kernel
theorem dX1_truthsOf_62 : decode cX1_truthsOf 62 = .ok (.iload 4, 2) := by decide +kernel
theorem dX1_truthsOf_64 : decode cX1_truthsOf 64 = .ok (.laload, 1) := by decide +kernel
theorem dX1_truthsOf_65 : decode cX1_truthsOf 65 = .ok (.invokevirtual 173, 3) := by decide +kernel
theorem dX1_truthsOf_68 : decode cX1_truthsOf 68 = .ok (.iinc 4 1, 3) := by decide +kernel
theorem dX1_truthsOf_71 : decode cX1_truthsOf 71 = .ok (.goto (-35), 3) := by decide +kernel
theorem dX1_truthsOf_74 : decode cX1_truthsOf 74 = .ok (.iconst 1, 1) := by decide +kernel
theorem dX1_truthsOf_75 : decode cX1_truthsOf 75 = .ok (.aload_n 1, 1) := by decide +kernel
theorem dX1_truthsOf_76 : decode cX1_truthsOf 76 = .ok (.getfield 47, 3) := by decide +kernel
theorem dX1_truthsOf_79 : decode cX1_truthsOf 79 = .ok (.iload_n 2, 1) := by decide +kernel
theorem dX1_truthsOf_80 : decode cX1_truthsOf 80 = .ok (.invokevirtual 93, 3) := by decide +kernel
theorem dX1_truthsOf_83 : decode cX1_truthsOf 83 = .ok (.invokestatic 177, 3) := by decide +kernel
theorem dX1_truthsOf_86 : decode cX1_truthsOf 86 = .ok (.istore 4, 2) := by decide +kernel
theorem dX1_truthsOf_88 : decode cX1_truthsOf 88 = .ok (.iconst 0, 1) := by decide +kernel
theorem dX1_truthsOf_89 : decode cX1_truthsOf 89 = .ok (.istore 5, 2) := by decide +kernel
theorem dX1_truthsOf_91 : decode cX1_truthsOf 91 = .ok (.iload 5, 2) := by decide +kernel
theorem dX1_truthsOf_93 : decode cX1_truthsOf 93 = .ok (.iload 4, 2) := by decide +kernel
theorem dX1_truthsOf_95 : decode cX1_truthsOf 95 = .ok (.if_icmp .gt 50, 3) := by decide +kernel
theorem dX1_truthsOf_98 : decode cX1_truthsOf 98 = .ok (.iload 5, 2) := by decide +kernel
theorem dX1_truthsOf_100 : decode cX1_truthsOf 100 = .ok (.aload_n 3, 1) := by decide +kernel
theorem dX1_truthsOf_101 : decode cX1_truthsOf 101 = .ok (.arraylength, 1) := by decide +kernel
theorem dX1_truthsOf_102 : decode cX1_truthsOf 102 = .ok (.if_icmp .ge 43, 3) := by decide +kernel
theorem dX1_truthsOf_105 : decode cX1_truthsOf 105 = .ok (.aload_n 0, 1) := by decide +kernel
theorem dX1_truthsOf_106 : decode cX1_truthsOf 106 = .ok (.getfield 31, 3) := by decide +kernel
theorem dX1_truthsOf_109 : decode cX1_truthsOf 109 = .ok (.iload_n 2, 1) := by decide +kernel
theorem dX1_truthsOf_110 : decode cX1_truthsOf 110 = .ok (.iload 5, 2) := by decide +kernel
theorem dX1_truthsOf_112 : decode cX1_truthsOf 112 = .ok (.i2l, 1) := by decide +kernel
theorem dX1_truthsOf_113 : decode cX1_truthsOf 113 = .ok (.invokevirtual 173, 3) := by decide +kernel
theorem dX1_truthsOf_116 : decode cX1_truthsOf 116 = .ok (.aload_n 3, 1) := by decide +kernel
theorem dX1_truthsOf_117 : decode cX1_truthsOf 117 = .ok (.iload 5, 2) := by decide +kernel
theorem dX1_truthsOf_119 : decode cX1_truthsOf 119 = .ok (.aload_n 0, 1) := by decide +kernel
theorem dX1_truthsOf_120 : decode cX1_truthsOf 120 = .ok (.getfield 31, 3) := by decide +kernel
theorem dX1_truthsOf_123 : decode cX1_truthsOf 123 = .ok (.aload_n 1, 1) := by decide +kernel
theorem dX1_truthsOf_124 : decode cX1_truthsOf 124 = .ok (.getfield 47, 3) := by decide +kernel
theorem dX1_truthsOf_127 : decode cX1_truthsOf 127 = .ok (.iload_n 2, 1) := by decide +kernel
theorem dX1_truthsOf_128 : decode cX1_truthsOf 128 = .ok (.iconst 1, 1) := by decide +kernel
theorem dX1_truthsOf_129 : decode cX1_truthsOf 129 = .ok (.iadd, 1) := by decide +kernel
theorem dX1_truthsOf_130 : decode cX1_truthsOf 130 = .ok (.aload_n 1, 1) := by decide +kernel
theorem dX1_truthsOf_131 : decode cX1_truthsOf 131 = .ok (.getfield 108, 3) := by decide +kernel
theorem dX1_truthsOf_134 : decode cX1_truthsOf 134 = .ok (.i2l, 1) := by decide +kernel
theorem dX1_truthsOf_135 : decode cX1_truthsOf 135 = .ok (.invokevirtual 183, 3) := by decide +kernel
theorem dX1_truthsOf_138 : decode cX1_truthsOf 138 = .ok (.lastore, 1) := by decide +kernel
theorem dX1_truthsOf_139 : decode cX1_truthsOf 139 = .ok (.iinc 5 1, 3) := by decide +kernel
theorem dX1_truthsOf_142 : decode cX1_truthsOf 142 = .ok (.goto (-51), 3) := by decide +kernel
theorem dX1_truthsOf_145 : decode cX1_truthsOf 145 = .ok (.iload_n 2, 1) := by decide +kernel
theorem dX1_truthsOf_146 : decode cX1_truthsOf 146 = .ok (.ifCond .ne 8, 3) := by decide +kernel
theorem dX1_truthsOf_149 : decode cX1_truthsOf 149 = .ok (.aload_n 0, 1) := by decide +kernel
theorem dX1_truthsOf_150 : decode cX1_truthsOf 150 = .ok (.aload_n 1, 1) := by decide +kernel
theorem dX1_truthsOf_151 : decode cX1_truthsOf 151 = .ok (.putfield 170, 3) := by decide +kernel
theorem dX1_truthsOf_154 : decode cX1_truthsOf 154 = .ok (.aload_n 3, 1) := by decide +kernel
theorem dX1_truthsOf_155 : decode cX1_truthsOf 155 = .ok (.areturn, 1) := by decide +kernel
theorem dX1_drawBefore_0 : decode cX1_drawBefore 0 = .ok (.iload_n 1, 1) := by decide +kernel
theorem dX1_drawBefore_1 : decode cX1_drawBefore 1 = .ok (.iconst 1, 1) := by decide +kernel
theorem dX1_drawBefore_2 : decode cX1_drawBefore 2 = .ok (.if_icmp .lt 12, 3) := by decide +kernel
theorem dX1_drawBefore_5 : decode cX1_drawBefore 5 = .ok (.iload_n 1, 1) := by decide +kernel
theorem dX1_drawBefore_6 : decode cX1_drawBefore 6 = .ok (.aload_n 0, 1) := by decide +kernel
theorem dX1_drawBefore_7 : decode cX1_drawBefore 7 = .ok (.getfield 22, 3) := by decide +kernel
theorem dX1_drawBefore_10 : decode cX1_drawBefore 10 = .ok (.arraylength, 1) := by decide +kernel
theorem dX1_drawBefore_11 : decode cX1_drawBefore 11 = .ok (.if_icmp .le 7, 3) := by decide +kernel
theorem dX1_drawBefore_14 : decode cX1_drawBefore 14 = .ok (.lconst 0, 1) := by decide +kernel
theorem dX1_drawBefore_15 : decode cX1_drawBefore 15 = .ok (.goto 11, 3) := by decide +kernel
theorem dX1_drawBefore_18 : decode cX1_drawBefore 18 = .ok (.aload_n 0, 1) := by decide +kernel
theorem dX1_drawBefore_19 : decode cX1_drawBefore 19 = .ok (.getfield 22, 3) := by decide +kernel
theorem dX1_drawBefore_22 : decode cX1_drawBefore 22 = .ok (.iload_n 1, 1) := by decide +kernel
theorem dX1_drawBefore_23 : decode cX1_drawBefore 23 = .ok (.iconst 1, 1) := by decide +kernel
theorem dX1_drawBefore_24 : decode cX1_drawBefore 24 = .ok (.isub, 1) := by decide +kernel
theorem dX1_drawBefore_25 : decode cX1_drawBefore 25 = .ok (.laload, 1) := by decide +kernel
theorem dX1_drawBefore_26 : decode cX1_drawBefore 26 = .ok (.lreturn, 1) := by decide +kernel
theorem dX1_note_0 : decode cX1_note 0 = .ok (.iload_n 1, 1) := by decide +kernel
theorem dX1_note_1 : decode cX1_note 1 = .ok (.ifCond .lt 36, 3) := by decide +kernel
theorem dX1_note_4 : decode cX1_note 4 = .ok (.iload_n 1, 1) := by decide +kernel
theorem dX1_note_5 : decode cX1_note 5 = .ok (.aload_n 0, 1) := by decide +kernel
theorem dX1_note_6 : decode cX1_note 6 = .ok (.getfield 19, 3) := by decide +kernel
theorem dX1_note_9 : decode cX1_note 9 = .ok (.arraylength, 1) := by decide +kernel
theorem dX1_note_10 : decode cX1_note 10 = .ok (.if_icmp .ge 27, 3) := by decide +kernel
theorem dX1_note_13 : decode cX1_note 13 = .ok (.iload_n 2, 1) := by decide +kernel
theorem dX1_note_14 : decode cX1_note 14 = .ok (.ifCond .lt 23, 3) := by decide +kernel
theorem dX1_note_17 : decode cX1_note 17 = .ok (.iload_n 2, 1) := by decide +kernel
theorem dX1_note_18 : decode cX1_note 18 = .ok (.aload_n 0, 1) := by decide +kernel
theorem dX1_note_19 : decode cX1_note 19 = .ok (.getfield 19, 3) := by decide +kernel
theorem dX1_note_22 : decode cX1_note 22 = .ok (.iload_n 1, 1) := by decide +kernel
theorem dX1_note_23 : decode cX1_note 23 = .ok (.aaload, 1) := by decide +kernel
theorem dX1_note_24 : decode cX1_note 24 = .ok (.arraylength, 1) := by decide +kernel
theorem dX1_note_25 : decode cX1_note 25 = .ok (.if_icmp .ge 12, 3) := by decide +kernel
theorem dX1_note_28 : decode cX1_note 28 = .ok (.aload_n 0, 1) := by decide +kernel
theorem dX1_note_29 : decode cX1_note 29 = .ok (.getfield 19, 3) := by decide +kernel
theorem dX1_note_32 : decode cX1_note 32 = .ok (.iload_n 1, 1) := by decide +kernel
theorem dX1_note_33 : decode cX1_note 33 = .ok (.aaload, 1) := by decide +kernel
theorem dX1_note_34 : decode cX1_note 34 = .ok (.iload_n 2, 1) := by decide +kernel
theorem dX1_note_35 : decode cX1_note 35 = .ok (.lload_n 3, 1) := by decide +kernel
theorem dX1_note_36 : decode cX1_note 36 = .ok (.lastore, 1) := by decide +kernel
theorem dX1_note_37 : decode cX1_note 37 = .ok (.return_, 1) := by decide +kernel
theorem dX1_agrees_0 : decode cX1_agrees 0 = .ok (.aload_n 0, 1) := by decide +kernel
theorem dX1_agrees_1 : decode cX1_agrees 1 = .ok (.iload_n 2, 1) := by decide +kernel
theorem dX1_agrees_2 : decode cX1_agrees 2 = .ok (.iconst 1, 1) := by decide +kernel
theorem dX1_agrees_3 : decode cX1_agrees 3 = .ok (.aload_n 1, 1) := by decide +kernel
theorem dX1_agrees_4 : decode cX1_agrees 4 = .ok (.getfield 47, 3) := by decide +kernel
theorem dX1_agrees_7 : decode cX1_agrees 7 = .ok (.iload_n 2, 1) := by decide +kernel
theorem dX1_agrees_8 : decode cX1_agrees 8 = .ok (.invokevirtual 93, 3) := by decide +kernel
theorem dX1_agrees_11 : decode cX1_agrees 11 = .ok (.invokestatic 187, 3) := by decide +kernel
theorem dX1_agrees_14 : decode cX1_agrees 14 = .ok (.invokevirtual 96, 3) := by decide +kernel
theorem dX1_agrees_17 : decode cX1_agrees 17 = .ok (.lstore_n 3, 1) := by decide +kernel
theorem dX1_agrees_18 : decode cX1_agrees 18 = .ok (.aload_n 0, 1) := by decide +kernel
theorem dX1_agrees_19 : decode cX1_agrees 19 = .ok (.getfield 35, 3) := by decide +kernel
theorem dX1_agrees_22 : decode cX1_agrees 22 = .ok (.iload_n 2, 1) := by decide +kernel
theorem dX1_agrees_23 : decode cX1_agrees 23 = .ok (.invokevirtual 190, 3) := by decide +kernel
theorem dX1_agrees_26 : decode cX1_agrees 26 = .ok (.ifCond .eq 26, 3) := by decide +kernel
theorem dX1_agrees_29 : decode cX1_agrees 29 = .ok (.aload_n 0, 1) := by decide +kernel
theorem dX1_agrees_30 : decode cX1_agrees 30 = .ok (.iload_n 2, 1) := by decide +kernel
theorem dX1_agrees_31 : decode cX1_agrees 31 = .ok (.iconst 0, 1) := by decide +kernel
theorem dX1_agrees_32 : decode cX1_agrees 32 = .ok (.invokevirtual 96, 3) := by decide +kernel
theorem dX1_agrees_35 : decode cX1_agrees 35 = .ok (.lload_n 3, 1) := by decide +kernel
theorem dX1_agrees_36 : decode cX1_agrees 36 = .ok (.aload_n 1, 1) := by decide +kernel
theorem dX1_agrees_37 : decode cX1_agrees 37 = .ok (.getfield 108, 3) := by decide +kernel
theorem dX1_agrees_40 : decode cX1_agrees 40 = .ok (.i2l, 1) := by decide +kernel
theorem dX1_agrees_41 : decode cX1_agrees 41 = .ok (.invokestatic 158, 3) := by decide +kernel
theorem dX1_agrees_44 : decode cX1_agrees 44 = .ok (.aload_n 0, 1) := by decide +kernel
theorem dX1_agrees_45 : decode cX1_agrees 45 = .ok (.getfield 90, 3) := by decide +kernel
theorem dX1_agrees_48 : decode cX1_agrees 48 = .ok (.lcmp, 1) := by decide +kernel
theorem dX1_agrees_49 : decode cX1_agrees 49 = .ok (.ifCond .ne 7, 3) := by decide +kernel
theorem dX1_agrees_52 : decode cX1_agrees 52 = .ok (.iconst 1, 1) := by decide +kernel
theorem dX1_agrees_53 : decode cX1_agrees 53 = .ok (.goto 4, 3) := by decide +kernel
theorem dX1_agrees_56 : decode cX1_agrees 56 = .ok (.iconst 0, 1) := by decide +kernel
theorem dX1_agrees_57 : decode cX1_agrees 57 = .ok (.ireturn, 1) := by decide +kernel
theorem dX1_stir_0 : decode cX1_stir 0 = .ok (.aload_n 0, 1) := by decide +kernel
theorem dX1_stir_1 : decode cX1_stir 1 = .ok (.aload_n 0, 1) := by decide +kernel
theorem dX1_stir_2 : decode cX1_stir 2 = .ok (.getfield 43, 3) := by decide +kernel
theorem dX1_stir_5 : decode cX1_stir 5 = .ok (.ldc2_w 194, 3) := by decide +kernel
theorem dX1_stir_8 : decode cX1_stir 8 = .ok (.lmul, 1) := by decide +kernel
theorem dX1_stir_9 : decode cX1_stir 9 = .ok (.ldc2_w 196, 3) := by decide +kernel
theorem dX1_stir_12 : decode cX1_stir 12 = .ok (.ladd, 1) := by decide +kernel
theorem dX1_stir_13 : decode cX1_stir 13 = .ok (.lload_n 1, 1) := by decide +kernel
theorem dX1_stir_14 : decode cX1_stir 14 = .ok (.ladd, 1) := by decide +kernel
theorem dX1_stir_15 : decode cX1_stir 15 = .ok (.putfield 43, 3) := by decide +kernel
theorem dX1_stir_18 : decode cX1_stir 18 = .ok (.return_, 1) := by decide +kernel
theorem dX1_drawOfDice_0 : decode cX1_drawOfDice 0 = .ok (.iload_n 1, 1) := by decide +kernel
theorem dX1_drawOfDice_1 : decode cX1_drawOfDice 1 = .ok (.iconst 1, 1) := by decide +kernel
theorem dX1_drawOfDice_2 : decode cX1_drawOfDice 2 = .ok (.if_icmp .ge 7, 3) := by decide +kernel
theorem dX1_drawOfDice_5 : decode cX1_drawOfDice 5 = .ok (.iconst 0, 1) := by decide +kernel
theorem dX1_drawOfDice_6 : decode cX1_drawOfDice 6 = .ok (.goto 14, 3) := by decide +kernel
theorem dX1_drawOfDice_9 : decode cX1_drawOfDice 9 = .ok (.aload_n 0, 1) := by decide +kernel
theorem dX1_drawOfDice_10 : decode cX1_drawOfDice 10 = .ok (.getfield 43, 3) := by decide +kernel
theorem dX1_drawOfDice_13 : decode cX1_drawOfDice 13 = .ok (.bipush 33, 2) := by decide +kernel
theorem dX1_drawOfDice_15 : decode cX1_drawOfDice 15 = .ok (.lushr, 1) := by decide +kernel
theorem dX1_drawOfDice_16 : decode cX1_drawOfDice 16 = .ok (.iload_n 1, 1) := by decide +kernel
theorem dX1_drawOfDice_17 : decode cX1_drawOfDice 17 = .ok (.i2l, 1) := by decide +kernel
theorem dX1_drawOfDice_18 : decode cX1_drawOfDice 18 = .ok (.lrem, 1) := by decide +kernel
theorem dX1_drawOfDice_19 : decode cX1_drawOfDice 19 = .ok (.l2i, 1) := by decide +kernel
theorem dX1_drawOfDice_20 : decode cX1_drawOfDice 20 = .ok (.ireturn, 1) := by decide +kernel
theorem dX1_moveOn_0 : decode cX1_moveOn 0 = .ok (.iload_n 2, 1) := by decide +kernel
theorem dX1_moveOn_1 : decode cX1_moveOn 1 = .ok (.ifCond .lt 70, 3) := by decide +kernel
theorem dX1_moveOn_4 : decode cX1_moveOn 4 = .ok (.iload_n 2, 1) := by decide +kernel
theorem dX1_moveOn_5 : decode cX1_moveOn 5 = .ok (.aload_n 0, 1) := by decide +kernel
theorem dX1_moveOn_6 : decode cX1_moveOn 6 = .ok (.getfield 22, 3) := by decide +kernel
theorem dX1_moveOn_9 : decode cX1_moveOn 9 = .ok (.arraylength, 1) := by decide +kernel
theorem dX1_moveOn_10 : decode cX1_moveOn 10 = .ok (.if_icmp .ge 61, 3) := by decide +kernel
theorem dX1_moveOn_13 : decode cX1_moveOn 13 = .ok (.iload_n 2, 1) := by decide +kernel
theorem dX1_moveOn_14 : decode cX1_moveOn 14 = .ok (.aload_n 0, 1) := by decide +kernel
theorem dX1_moveOn_15 : decode cX1_moveOn 15 = .ok (.getfield 19, 3) := by decide +kernel
theorem dX1_moveOn_18 : decode cX1_moveOn 18 = .ok (.arraylength, 1) := by decide +kernel
theorem dX1_moveOn_19 : decode cX1_moveOn 19 = .ok (.if_icmp .ge 52, 3) := by decide +kernel
theorem dX1_moveOn_22 : decode cX1_moveOn 22 = .ok (.aload_n 0, 1) := by decide +kernel
theorem dX1_moveOn_23 : decode cX1_moveOn 23 = .ok (.getfield 22, 3) := by decide +kernel
theorem dX1_moveOn_26 : decode cX1_moveOn 26 = .ok (.iload_n 2, 1) := by decide +kernel
theorem dX1_moveOn_27 : decode cX1_moveOn 27 = .ok (.iload_n 3, 1) := by decide +kernel
theorem dX1_moveOn_28 : decode cX1_moveOn 28 = .ok (.i2l, 1) := by decide +kernel
theorem dX1_moveOn_29 : decode cX1_moveOn 29 = .ok (.lastore, 1) := by decide +kernel
theorem dX1_moveOn_30 : decode cX1_moveOn 30 = .ok (.aload_n 0, 1) := by decide +kernel
theorem dX1_moveOn_31 : decode cX1_moveOn 31 = .ok (.iload_n 2, 1) := by decide +kernel
theorem dX1_moveOn_32 : decode cX1_moveOn 32 = .ok (.iconst 1, 1) := by decide +kernel
theorem dX1_moveOn_33 : decode cX1_moveOn 33 = .ok (.iadd, 1) := by decide +kernel
theorem dX1_moveOn_34 : decode cX1_moveOn 34 = .ok (.putfield 119, 3) := by decide +kernel
theorem dX1_moveOn_37 : decode cX1_moveOn 37 = .ok (.aload_n 0, 1) := by decide +kernel
theorem dX1_moveOn_38 : decode cX1_moveOn 38 = .ok (.aload_n 0, 1) := by decide +kernel
theorem dX1_moveOn_39 : decode cX1_moveOn 39 = .ok (.getfield 31, 3) := by decide +kernel
theorem dX1_moveOn_42 : decode cX1_moveOn 42 = .ok (.aload_n 0, 1) := by decide +kernel
theorem dX1_moveOn_43 : decode cX1_moveOn 43 = .ok (.getfield 19, 3) := by decide +kernel
theorem dX1_moveOn_46 : decode cX1_moveOn 46 = .ok (.iload_n 2, 1) := by decide +kernel
theorem dX1_moveOn_47 : decode cX1_moveOn 47 = .ok (.aaload, 1) := by decide +kernel
theorem dX1_moveOn_48 : decode cX1_moveOn 48 = .ok (.aload_n 1, 1) := by decide +kernel
theorem dX1_moveOn_49 : decode cX1_moveOn 49 = .ok (.getfield 47, 3) := by decide +kernel
theorem dX1_moveOn_52 : decode cX1_moveOn 52 = .ok (.iload_n 2, 1) := by decide +kernel
theorem dX1_moveOn_53 : decode cX1_moveOn 53 = .ok (.invokevirtual 93, 3) := by decide +kernel
theorem dX1_moveOn_56 : decode cX1_moveOn 56 = .ok (.iconst 1, 1) := by decide +kernel
theorem dX1_moveOn_57 : decode cX1_moveOn 57 = .ok (.iadd, 1) := by decide +kernel
theorem dX1_moveOn_58 : decode cX1_moveOn 58 = .ok (.aload_n 1, 1) := by decide +kernel
theorem dX1_moveOn_59 : decode cX1_moveOn 59 = .ok (.getfield 108, 3) := by decide +kernel
theorem dX1_moveOn_62 : decode cX1_moveOn 62 = .ok (.i2l, 1) := by decide +kernel
theorem dX1_moveOn_63 : decode cX1_moveOn 63 = .ok (.iload_n 3, 1) := by decide +kernel
theorem dX1_moveOn_64 : decode cX1_moveOn 64 = .ok (.i2l, 1) := by decide +kernel
theorem dX1_moveOn_65 : decode cX1_moveOn 65 = .ok (.invokevirtual 198, 3) := by decide +kernel
theorem dX1_moveOn_68 : decode cX1_moveOn 68 = .ok (.putfield 90, 3) := by decide +kernel
theorem dX1_moveOn_71 : decode cX1_moveOn 71 = .ok (.return_, 1) := by decide +kernel
theorem dX1_believesAtEnd_0 : decode cX1_believesAtEnd 0 = .ok (.aload_n 0, 1) := by decide +kernel
theorem dX1_believesAtEnd_1 : decode cX1_believesAtEnd 1 = .ok (.getfield 35, 3) := by decide +kernel
theorem dX1_believesAtEnd_4 : decode cX1_believesAtEnd 4 = .ok (.invokevirtual 202, 3) := by decide +kernel
theorem dX1_believesAtEnd_7 : decode cX1_believesAtEnd 7 = .ok (.ifCond .ne 5, 3) := by decide +kernel
theorem dX1_believesAtEnd_10 : decode cX1_believesAtEnd 10 = .ok (.iconst 1, 1) := by decide +kernel
theorem dX1_believesAtEnd_11 : decode cX1_believesAtEnd 11 = .ok (.ireturn, 1) := by decide +kernel
theorem dX1_believesAtEnd_12 : decode cX1_believesAtEnd 12 = .ok (.iconst 0, 1) := by decide +kernel
theorem dX1_believesAtEnd_13 : decode cX1_believesAtEnd 13 = .ok (.istore_n 2, 1) := by decide +kernel
theorem dX1_believesAtEnd_14 : decode cX1_believesAtEnd 14 = .ok (.iload_n 2, 1) := by decide +kernel
theorem dX1_believesAtEnd_15 : decode cX1_believesAtEnd 15 = .ok (.aload_n 0, 1) := by decide +kernel
theorem dX1_believesAtEnd_16 : decode cX1_believesAtEnd 16 = .ok (.getfield 22, 3) := by decide +kernel
theorem dX1_believesAtEnd_19 : decode cX1_believesAtEnd 19 = .ok (.arraylength, 1) := by decide +kernel
theorem dX1_believesAtEnd_20 : decode cX1_believesAtEnd 20 = .ok (.if_icmp .ge 23, 3) := by decide +kernel
theorem dX1_believesAtEnd_23 : decode cX1_believesAtEnd 23 = .ok (.aload_n 0, 1) := by decide +kernel
theorem dX1_believesAtEnd_24 : decode cX1_believesAtEnd 24 = .ok (.getfield 31, 3) := by decide +kernel
theorem dX1_believesAtEnd_27 : decode cX1_believesAtEnd 27 = .ok (.iload_n 2, 1) := by decide +kernel
theorem dX1_believesAtEnd_28 : decode cX1_believesAtEnd 28 = .ok (.aload_n 0, 1) := by decide +kernel
theorem dX1_believesAtEnd_29 : decode cX1_believesAtEnd 29 = .ok (.getfield 22, 3) := by decide +kernel
theorem dX1_believesAtEnd_32 : decode cX1_believesAtEnd 32 = .ok (.iload_n 2, 1) := by decide +kernel
theorem dX1_believesAtEnd_33 : decode cX1_believesAtEnd 33 = .ok (.laload, 1) := by decide +kernel
theorem dX1_believesAtEnd_34 : decode cX1_believesAtEnd 34 = .ok (.invokevirtual 173, 3) := by decide +kernel
theorem dX1_believesAtEnd_37 : decode cX1_believesAtEnd 37 = .ok (.iinc 2 1, 3) := by decide +kernel
theorem dX1_believesAtEnd_40 : decode cX1_believesAtEnd 40 = .ok (.goto (-26), 3) := by decide +kernel
theorem dX1_believesAtEnd_43 : decode cX1_believesAtEnd 43 = .ok (.aload_n 0, 1) := by decide +kernel
theorem dX1_believesAtEnd_44 : decode cX1_believesAtEnd 44 = .ok (.getfield 31, 3) := by decide +kernel
theorem dX1_believesAtEnd_47 : decode cX1_believesAtEnd 47 = .ok (.aload_n 1, 1) := by decide +kernel
theorem dX1_believesAtEnd_48 : decode cX1_believesAtEnd 48 = .ok (.getfield 47, 3) := by decide +kernel
theorem dX1_believesAtEnd_51 : decode cX1_believesAtEnd 51 = .ok (.aload_n 1, 1) := by decide +kernel
theorem dX1_believesAtEnd_52 : decode cX1_believesAtEnd 52 = .ok (.getfield 108, 3) := by decide +kernel
theorem dX1_believesAtEnd_55 : decode cX1_believesAtEnd 55 = .ok (.i2l, 1) := by decide +kernel
theorem dX1_believesAtEnd_56 : decode cX1_believesAtEnd 56 = .ok (.invokevirtual 206, 3) := by decide +kernel
theorem dX1_believesAtEnd_59 : decode cX1_believesAtEnd 59 = .ok (.aload_n 0, 1) := by decide +kernel
theorem dX1_believesAtEnd_60 : decode cX1_believesAtEnd 60 = .ok (.getfield 90, 3) := by decide +kernel
theorem dX1_believesAtEnd_63 : decode cX1_believesAtEnd 63 = .ok (.lcmp, 1) := by decide +kernel
theorem dX1_believesAtEnd_64 : decode cX1_believesAtEnd 64 = .ok (.ifCond .ne 5, 3) := by decide +kernel
theorem dX1_believesAtEnd_67 : decode cX1_believesAtEnd 67 = .ok (.iconst 1, 1) := by decide +kernel
theorem dX1_believesAtEnd_68 : decode cX1_believesAtEnd 68 = .ok (.ireturn, 1) := by decide +kernel
theorem dX1_believesAtEnd_69 : decode cX1_believesAtEnd 69 = .ok (.aload_n 0, 1) := by decide +kernel
theorem dX1_believesAtEnd_70 : decode cX1_believesAtEnd 70 = .ok (.aload_n 1, 1) := by decide +kernel
theorem dX1_believesAtEnd_71 : decode cX1_believesAtEnd 71 = .ok (.getfield 47, 3) := by decide +kernel
theorem dX1_believesAtEnd_74 : decode cX1_believesAtEnd 74 = .ok (.getfield 53, 3) := by decide +kernel
theorem dX1_believesAtEnd_77 : decode cX1_believesAtEnd 77 = .ok (.putfield 66, 3) := by decide +kernel
theorem dX1_believesAtEnd_80 : decode cX1_believesAtEnd 80 = .ok (.iconst 0, 1) := by decide +kernel
theorem dX1_believesAtEnd_81 : decode cX1_believesAtEnd 81 = .ok (.ireturn, 1) := by decide +kernel
theorem dX1_hasSaid_0 : decode cX1_hasSaid 0 = .ok (.aload_n 0, 1) := by decide +kernel
theorem dX1_hasSaid_1 : decode cX1_hasSaid 1 = .ok (.getfield 115, 3) := by decide +kernel
theorem dX1_hasSaid_4 : decode cX1_hasSaid 4 = .ok (.ifnull 38, 3) := by decide +kernel
theorem dX1_hasSaid_7 : decode cX1_hasSaid 7 = .ok (.iload_n 1, 1) := by decide +kernel
theorem dX1_hasSaid_8 : decode cX1_hasSaid 8 = .ok (.ifCond .lt 34, 3) := by decide +kernel
theorem dX1_hasSaid_11 : decode cX1_hasSaid 11 = .ok (.iload_n 1, 1) := by decide +kernel
theorem dX1_hasSaid_12 : decode cX1_hasSaid 12 = .ok (.aload_n 0, 1) := by decide +kernel
theorem dX1_hasSaid_13 : decode cX1_hasSaid 13 = .ok (.getfield 122, 3) := by decide +kernel
theorem dX1_hasSaid_16 : decode cX1_hasSaid 16 = .ok (.if_icmp .ge 26, 3) := by decide +kernel
theorem dX1_hasSaid_19 : decode cX1_hasSaid 19 = .ok (.iload_n 2, 1) := by decide +kernel
theorem dX1_hasSaid_20 : decode cX1_hasSaid 20 = .ok (.ifCond .lt 22, 3) := by decide +kernel
theorem dX1_hasSaid_23 : decode cX1_hasSaid 23 = .ok (.iload_n 2, 1) := by decide +kernel
theorem dX1_hasSaid_24 : decode cX1_hasSaid 24 = .ok (.aload_n 0, 1) := by decide +kernel
theorem dX1_hasSaid_25 : decode cX1_hasSaid 25 = .ok (.getfield 115, 3) := by decide +kernel
theorem dX1_hasSaid_28 : decode cX1_hasSaid 28 = .ok (.getfield 47, 3) := by decide +kernel
theorem dX1_hasSaid_31 : decode cX1_hasSaid 31 = .ok (.iload_n 1, 1) := by decide +kernel
theorem dX1_hasSaid_32 : decode cX1_hasSaid 32 = .ok (.invokevirtual 93, 3) := by decide +kernel
theorem dX1_hasSaid_35 : decode cX1_hasSaid 35 = .ok (.if_icmp .gt 7, 3) := by decide +kernel
theorem dX1_hasSaid_38 : decode cX1_hasSaid 38 = .ok (.iconst 1, 1) := by decide +kernel
theorem dX1_hasSaid_39 : decode cX1_hasSaid 39 = .ok (.goto 4, 3) := by decide +kernel
theorem dX1_hasSaid_42 : decode cX1_hasSaid 42 = .ok (.iconst 0, 1) := by decide +kernel
theorem dX1_hasSaid_43 : decode cX1_hasSaid 43 = .ok (.ireturn, 1) := by decide +kernel
theorem dX1_saidAt_0 : decode cX1_saidAt 0 = .ok (.iload_n 1, 1) := by decide +kernel
theorem dX1_saidAt_1 : decode cX1_saidAt 1 = .ok (.ifCond .lt 27, 3) := by decide +kernel
theorem dX1_saidAt_4 : decode cX1_saidAt 4 = .ok (.iload_n 1, 1) := by decide +kernel
theorem dX1_saidAt_5 : decode cX1_saidAt 5 = .ok (.aload_n 0, 1) := by decide +kernel
theorem dX1_saidAt_6 : decode cX1_saidAt 6 = .ok (.getfield 19, 3) := by decide +kernel
theorem dX1_saidAt_9 : decode cX1_saidAt 9 = .ok (.arraylength, 1) := by decide +kernel
theorem dX1_saidAt_10 : decode cX1_saidAt 10 = .ok (.if_icmp .ge 18, 3) := by decide +kernel
theorem dX1_saidAt_13 : decode cX1_saidAt 13 = .ok (.iload_n 2, 1) := by decide +kernel
theorem dX1_saidAt_14 : decode cX1_saidAt 14 = .ok (.ifCond .lt 14, 3) := by decide +kernel
theorem dX1_saidAt_17 : decode cX1_saidAt 17 = .ok (.iload_n 2, 1) := by decide +kernel
theorem dX1_saidAt_18 : decode cX1_saidAt 18 = .ok (.aload_n 0, 1) := by decide +kernel
theorem dX1_saidAt_19 : decode cX1_saidAt 19 = .ok (.getfield 19, 3) := by decide +kernel
theorem dX1_saidAt_22 : decode cX1_saidAt 22 = .ok (.iload_n 1, 1) := by decide +kernel
theorem dX1_saidAt_23 : decode cX1_saidAt 23 = .ok (.aaload, 1) := by decide +kernel
theorem dX1_saidAt_24 : decode cX1_saidAt 24 = .ok (.arraylength, 1) := by decide +kernel
theorem dX1_saidAt_25 : decode cX1_saidAt 25 = .ok (.if_icmp .lt 5, 3) := by decide +kernel
theorem dX1_saidAt_28 : decode cX1_saidAt 28 = .ok (.lconst 0, 1) := by decide +kernel
theorem dX1_saidAt_29 : decode cX1_saidAt 29 = .ok (.lreturn, 1) := by decide +kernel
theorem dX1_saidAt_30 : decode cX1_saidAt 30 = .ok (.aload_n 0, 1) := by decide +kernel
theorem dX1_saidAt_31 : decode cX1_saidAt 31 = .ok (.getfield 19, 3) := by decide +kernel
theorem dX1_saidAt_34 : decode cX1_saidAt 34 = .ok (.iload_n 1, 1) := by decide +kernel
theorem dX1_saidAt_35 : decode cX1_saidAt 35 = .ok (.aaload, 1) := by decide +kernel
theorem dX1_saidAt_36 : decode cX1_saidAt 36 = .ok (.iload_n 2, 1) := by decide +kernel
theorem dX1_saidAt_37 : decode cX1_saidAt 37 = .ok (.laload, 1) := by decide +kernel
theorem dX1_saidAt_38 : decode cX1_saidAt 38 = .ok (.lreturn, 1) := by decide +kernel
theorem dX1_drawOf_0 : decode cX1_drawOf 0 = .ok (.iload_n 1, 1) := by decide +kernel
theorem dX1_drawOf_1 : decode cX1_drawOf 1 = .ok (.ifCond .lt 20, 3) := by decide +kernel
theorem dX1_drawOf_4 : decode cX1_drawOf 4 = .ok (.iload_n 1, 1) := by decide +kernel
theorem dX1_drawOf_5 : decode cX1_drawOf 5 = .ok (.aload_n 0, 1) := by decide +kernel
theorem dX1_drawOf_6 : decode cX1_drawOf 6 = .ok (.getfield 119, 3) := by decide +kernel
theorem dX1_drawOf_9 : decode cX1_drawOf 9 = .ok (.if_icmp .ge 12, 3) := by decide +kernel
theorem dX1_drawOf_12 : decode cX1_drawOf 12 = .ok (.iload_n 1, 1) := by decide +kernel
theorem dX1_drawOf_13 : decode cX1_drawOf 13 = .ok (.aload_n 0, 1) := by decide +kernel
theorem dX1_drawOf_14 : decode cX1_drawOf 14 = .ok (.getfield 22, 3) := by decide +kernel
theorem dX1_drawOf_17 : decode cX1_drawOf 17 = .ok (.arraylength, 1) := by decide +kernel
theorem dX1_drawOf_18 : decode cX1_drawOf 18 = .ok (.if_icmp .lt 7, 3) := by decide +kernel
theorem dX1_drawOf_21 : decode cX1_drawOf 21 = .ok (.iconst (-1), 1) := by decide +kernel
theorem dX1_drawOf_22 : decode cX1_drawOf 22 = .ok (.goto 10, 3) := by decide +kernel
theorem dX1_drawOf_25 : decode cX1_drawOf 25 = .ok (.aload_n 0, 1) := by decide +kernel
theorem dX1_drawOf_26 : decode cX1_drawOf 26 = .ok (.getfield 22, 3) := by decide +kernel
theorem dX1_drawOf_29 : decode cX1_drawOf 29 = .ok (.iload_n 1, 1) := by decide +kernel
theorem dX1_drawOf_30 : decode cX1_drawOf 30 = .ok (.laload, 1) := by decide +kernel
theorem dX1_drawOf_31 : decode cX1_drawOf 31 = .ok (.l2i, 1) := by decide +kernel
theorem dX1_drawOf_32 : decode cX1_drawOf 32 = .ok (.ireturn, 1) := by decide +kernel
theorem dX2_init_0 : decode cX2_init 0 = .ok (.aload_n 0, 1) := by decide +kernel
theorem dX2_init_1 : decode cX2_init 1 = .ok (.invokespecial 1, 3) := by decide +kernel
theorem dX2_init_4 : decode cX2_init 4 = .ok (.aload_n 0, 1) := by decide +kernel
theorem dX2_init_5 : decode cX2_init 5 = .ok (.iload_n 1, 1) := by decide +kernel
theorem dX2_init_6 : decode cX2_init 6 = .ok (.putfield 7, 3) := by decide +kernel
theorem dX2_init_9 : decode cX2_init 9 = .ok (.aload_n 0, 1) := by decide +kernel
theorem dX2_init_10 : decode cX2_init 10 = .ok (.iload_n 2, 1) := by decide +kernel
theorem dX2_init_11 : decode cX2_init 11 = .ok (.putfield 13, 3) := by decide +kernel
theorem dX2_init_14 : decode cX2_init 14 = .ok (.return_, 1) := by decide +kernel
theorem dX2_joins_0 : decode cX2_joins 0 = .ok (.iload_n 1, 1) := by decide +kernel
theorem dX2_joins_1 : decode cX2_joins 1 = .ok (.iload_n 2, 1) := by decide +kernel
theorem dX2_joins_2 : decode cX2_joins 2 = .ok (.invokestatic 16, 3) := by decide +kernel
theorem dX2_joins_5 : decode cX2_joins 5 = .ok (.istore_n 3, 1) := by decide +kernel
theorem dX2_joins_6 : decode cX2_joins 6 = .ok (.iload_n 1, 1) := by decide +kernel
theorem dX2_joins_7 : decode cX2_joins 7 = .ok (.iload_n 2, 1) := by decide +kernel
theorem dX2_joins_8 : decode cX2_joins 8 = .ok (.invokestatic 22, 3) := by decide +kernel
theorem dX2_joins_11 : decode cX2_joins 11 = .ok (.istore 4, 2) := by decide +kernel
theorem dX2_joins_13 : decode cX2_joins 13 = .ok (.aload_n 0, 1) := by decide +kernel
theorem dX2_joins_14 : decode cX2_joins 14 = .ok (.getfield 13, 3) := by decide +kernel
theorem dX2_joins_17 : decode cX2_joins 17 = .ok (.iload_n 3, 1) := by decide +kernel
theorem dX2_joins_18 : decode cX2_joins 18 = .ok (.iload_n 3, 1) := by decide +kernel
theorem dX2_joins_19 : decode cX2_joins 19 = .ok (.iconst 1, 1) := by decide +kernel
theorem dX2_joins_20 : decode cX2_joins 20 = .ok (.isub, 1) := by decide +kernel
theorem dX2_joins_21 : decode cX2_joins 21 = .ok (.imul, 1) := by decide +kernel
theorem dX2_joins_22 : decode cX2_joins 22 = .ok (.iconst 2, 1) := by decide +kernel
theorem dX2_joins_23 : decode cX2_joins 23 = .ok (.idiv, 1) := by decide +kernel
theorem dX2_joins_24 : decode cX2_joins 24 = .ok (.iload 4, 2) := by decide +kernel
theorem dX2_joins_26 : decode cX2_joins 26 = .ok (.iadd, 1) := by decide +kernel
theorem dX2_joins_27 : decode cX2_joins 27 = .ok (.ishr, 1) := by decide +kernel
theorem dX2_joins_28 : decode cX2_joins 28 = .ok (.iconst 1, 1) := by decide +kernel
theorem dX2_joins_29 : decode cX2_joins 29 = .ok (.iand, 1) := by decide +kernel
theorem dX2_joins_30 : decode cX2_joins 30 = .ok (.iconst 1, 1) := by decide +kernel
theorem dX2_joins_31 : decode cX2_joins 31 = .ok (.if_icmp .ne 7, 3) := by decide +kernel
theorem dX2_joins_34 : decode cX2_joins 34 = .ok (.iconst 1, 1) := by decide +kernel
theorem dX2_joins_35 : decode cX2_joins 35 = .ok (.goto 4, 3) := by decide +kernel
theorem dX2_joins_38 : decode cX2_joins 38 = .ok (.iconst 0, 1) := by decide +kernel
theorem dX2_joins_39 : decode cX2_joins 39 = .ok (.ireturn, 1) := by decide +kernel
theorem dX2_isAlike_0 : decode cX2_isAlike 0 = .ok (.aload_n 0, 1) := by decide +kernel
theorem dX2_isAlike_1 : decode cX2_isAlike 1 = .ok (.getfield 7, 3) := by decide +kernel
theorem dX2_isAlike_4 : decode cX2_isAlike 4 = .ok (.aload_n 1, 1) := by decide +kernel
theorem dX2_isAlike_5 : decode cX2_isAlike 5 = .ok (.getfield 7, 3) := by decide +kernel
theorem dX2_isAlike_8 : decode cX2_isAlike 8 = .ok (.if_icmp .ne 18, 3) := by decide +kernel
theorem dX2_isAlike_11 : decode cX2_isAlike 11 = .ok (.aload_n 0, 1) := by decide +kernel
theorem dX2_isAlike_12 : decode cX2_isAlike 12 = .ok (.iconst 0, 1) := by decide +kernel
theorem dX2_isAlike_13 : decode cX2_isAlike 13 = .ok (.iconst 0, 1) := by decide +kernel
theorem dX2_isAlike_14 : decode cX2_isAlike 14 = .ok (.aload_n 1, 1) := by decide +kernel
theorem dX2_isAlike_15 : decode cX2_isAlike 15 = .ok (.aload_n 2, 1) := by decide +kernel
theorem dX2_isAlike_16 : decode cX2_isAlike 16 = .ok (.invokevirtual 25, 3) := by decide +kernel
theorem dX2_isAlike_19 : decode cX2_isAlike 19 = .ok (.ifCond .eq 7, 3) := by decide +kernel
theorem dX2_isAlike_22 : decode cX2_isAlike 22 = .ok (.iconst 1, 1) := by decide +kernel
theorem dX2_isAlike_23 : decode cX2_isAlike 23 = .ok (.goto 4, 3) := by decide +kernel
theorem dX2_isAlike_26 : decode cX2_isAlike 26 = .ok (.iconst 0, 1) := by decide +kernel
theorem dX2_isAlike_27 : decode cX2_isAlike 27 = .ok (.ireturn, 1) := by decide +kernel
theorem dX2_goOnFrom_0 : decode cX2_goOnFrom 0 = .ok (.iload_n 1, 1) := by decide +kernel
theorem dX2_goOnFrom_1 : decode cX2_goOnFrom 1 = .ok (.aload_n 0, 1) := by decide +kernel
theorem dX2_goOnFrom_2 : decode cX2_goOnFrom 2 = .ok (.getfield 7, 3) := by decide +kernel
theorem dX2_goOnFrom_5 : decode cX2_goOnFrom 5 = .ok (.if_icmp .ge 10, 3) := by decide +kernel
theorem dX2_goOnFrom_8 : decode cX2_goOnFrom 8 = .ok (.iload_n 1, 1) := by decide +kernel
theorem dX2_goOnFrom_9 : decode cX2_goOnFrom 9 = .ok (.aload 4, 2) := by decide +kernel
theorem dX2_goOnFrom_11 : decode cX2_goOnFrom 11 = .ok (.arraylength, 1) := by decide +kernel
theorem dX2_goOnFrom_12 : decode cX2_goOnFrom 12 = .ok (.if_icmp .lt 5, 3) := by decide +kernel
theorem dX2_goOnFrom_15 : decode cX2_goOnFrom 15 = .ok (.iconst 1, 1) := by decide +kernel
theorem dX2_goOnFrom_16 : decode cX2_goOnFrom 16 = .ok (.ireturn, 1) := by decide +kernel
theorem dX2_goOnFrom_17 : decode cX2_goOnFrom 17 = .ok (.iconst 0, 1) := by decide +kernel
theorem dX2_goOnFrom_18 : decode cX2_goOnFrom 18 = .ok (.istore 5, 2) := by decide +kernel
theorem dX2_goOnFrom_20 : decode cX2_goOnFrom 20 = .ok (.iload 5, 2) := by decide +kernel
theorem dX2_goOnFrom_22 : decode cX2_goOnFrom 22 = .ok (.aload_n 0, 1) := by decide +kernel
theorem dX2_goOnFrom_23 : decode cX2_goOnFrom 23 = .ok (.getfield 7, 3) := by decide +kernel
theorem dX2_goOnFrom_26 : decode cX2_goOnFrom 26 = .ok (.if_icmp .ge 58, 3) := by decide +kernel
theorem dX2_goOnFrom_29 : decode cX2_goOnFrom 29 = .ok (.iload_n 2, 1) := by decide +kernel
theorem dX2_goOnFrom_30 : decode cX2_goOnFrom 30 = .ok (.iload 5, 2) := by decide +kernel
theorem dX2_goOnFrom_32 : decode cX2_goOnFrom 32 = .ok (.ishr, 1) := by decide +kernel
theorem dX2_goOnFrom_33 : decode cX2_goOnFrom 33 = .ok (.iconst 1, 1) := by decide +kernel
theorem dX2_goOnFrom_34 : decode cX2_goOnFrom 34 = .ok (.iand, 1) := by decide +kernel
theorem dX2_goOnFrom_35 : decode cX2_goOnFrom 35 = .ok (.ifCond .ne 43, 3) := by decide +kernel
theorem dX2_goOnFrom_38 : decode cX2_goOnFrom 38 = .ok (.aload_n 0, 1) := by decide +kernel
theorem dX2_goOnFrom_39 : decode cX2_goOnFrom 39 = .ok (.iload_n 1, 1) := by decide +kernel
theorem dX2_goOnFrom_40 : decode cX2_goOnFrom 40 = .ok (.iload 5, 2) := by decide +kernel
theorem dX2_goOnFrom_42 : decode cX2_goOnFrom 42 = .ok (.aload_n 3, 1) := by decide +kernel
theorem dX2_goOnFrom_43 : decode cX2_goOnFrom 43 = .ok (.aload 4, 2) := by decide +kernel
theorem dX2_goOnFrom_45 : decode cX2_goOnFrom 45 = .ok (.invokevirtual 29, 3) := by decide +kernel
theorem dX2_goOnFrom_48 : decode cX2_goOnFrom 48 = .ok (.ifCond .eq 30, 3) := by decide +kernel
theorem dX2_goOnFrom_51 : decode cX2_goOnFrom 51 = .ok (.aload 4, 2) := by decide +kernel
theorem dX2_goOnFrom_53 : decode cX2_goOnFrom 53 = .ok (.iload_n 1, 1) := by decide +kernel
theorem dX2_goOnFrom_54 : decode cX2_goOnFrom 54 = .ok (.iload 5, 2) := by decide +kernel
theorem dX2_goOnFrom_56 : decode cX2_goOnFrom 56 = .ok (.iastore, 1) := by decide +kernel
theorem dX2_goOnFrom_57 : decode cX2_goOnFrom 57 = .ok (.aload_n 0, 1) := by decide +kernel
theorem dX2_goOnFrom_58 : decode cX2_goOnFrom 58 = .ok (.iload_n 1, 1) := by decide +kernel
theorem dX2_goOnFrom_59 : decode cX2_goOnFrom 59 = .ok (.iconst 1, 1) := by decide +kernel
theorem dX2_goOnFrom_60 : decode cX2_goOnFrom 60 = .ok (.iadd, 1) := by decide +kernel
theorem dX2_goOnFrom_61 : decode cX2_goOnFrom 61 = .ok (.iload_n 2, 1) := by decide +kernel
theorem dX2_goOnFrom_62 : decode cX2_goOnFrom 62 = .ok (.iconst 1, 1) := by decide +kernel
theorem dX2_goOnFrom_63 : decode cX2_goOnFrom 63 = .ok (.iload 5, 2) := by decide +kernel
theorem dX2_goOnFrom_65 : decode cX2_goOnFrom 65 = .ok (.ishl, 1) := by decide +kernel
theorem dX2_goOnFrom_66 : decode cX2_goOnFrom 66 = .ok (.ior, 1) := by decide +kernel
theorem dX2_goOnFrom_67 : decode cX2_goOnFrom 67 = .ok (.aload_n 3, 1) := by decide +kernel
theorem dX2_goOnFrom_68 : decode cX2_goOnFrom 68 = .ok (.aload 4, 2) := by decide +kernel
theorem dX2_goOnFrom_70 : decode cX2_goOnFrom 70 = .ok (.invokevirtual 25, 3) := by decide +kernel
theorem dX2_goOnFrom_73 : decode cX2_goOnFrom 73 = .ok (.ifCond .eq 5, 3) := by decide +kernel
theorem dX2_goOnFrom_76 : decode cX2_goOnFrom 76 = .ok (.iconst 1, 1) := by decide +kernel
theorem dX2_goOnFrom_77 : decode cX2_goOnFrom 77 = .ok (.ireturn, 1) := by decide +kernel
theorem dX2_goOnFrom_78 : decode cX2_goOnFrom 78 = .ok (.iinc 5 1, 3) := by decide +kernel
theorem dX2_goOnFrom_81 : decode cX2_goOnFrom 81 = .ok (.goto (-61), 3) := by decide +kernel
theorem dX2_goOnFrom_84 : decode cX2_goOnFrom 84 = .ok (.iconst 0, 1) := by decide +kernel
theorem dX2_goOnFrom_85 : decode cX2_goOnFrom 85 = .ok (.ireturn, 1) := by decide +kernel
theorem dX2_fits_0 : decode cX2_fits 0 = .ok (.iconst 0, 1) := by decide +kernel
theorem dX2_fits_1 : decode cX2_fits 1 = .ok (.istore 5, 2) := by decide +kernel
theorem dX2_fits_3 : decode cX2_fits 3 = .ok (.iload 5, 2) := by decide +kernel
theorem dX2_fits_5 : decode cX2_fits 5 = .ok (.iload_n 1, 1) := by decide +kernel
theorem dX2_fits_6 : decode cX2_fits 6 = .ok (.if_icmp .ge 39, 3) := by decide +kernel
theorem dX2_fits_9 : decode cX2_fits 9 = .ok (.iload 5, 2) := by decide +kernel
theorem dX2_fits_11 : decode cX2_fits 11 = .ok (.aload 4, 2) := by decide +kernel
theorem dX2_fits_13 : decode cX2_fits 13 = .ok (.arraylength, 1) := by decide +kernel
theorem dX2_fits_14 : decode cX2_fits 14 = .ok (.if_icmp .ge 31, 3) := by decide +kernel
theorem dX2_fits_17 : decode cX2_fits 17 = .ok (.aload_n 0, 1) := by decide +kernel
theorem dX2_fits_18 : decode cX2_fits 18 = .ok (.iload 5, 2) := by decide +kernel
theorem dX2_fits_20 : decode cX2_fits 20 = .ok (.iload_n 1, 1) := by decide +kernel
theorem dX2_fits_21 : decode cX2_fits 21 = .ok (.invokevirtual 32, 3) := by decide +kernel
theorem dX2_fits_24 : decode cX2_fits 24 = .ok (.aload_n 3, 1) := by decide +kernel
theorem dX2_fits_25 : decode cX2_fits 25 = .ok (.aload 4, 2) := by decide +kernel
theorem dX2_fits_27 : decode cX2_fits 27 = .ok (.iload 5, 2) := by decide +kernel
theorem dX2_fits_29 : decode cX2_fits 29 = .ok (.iaload, 1) := by decide +kernel
theorem dX2_fits_30 : decode cX2_fits 30 = .ok (.iload_n 2, 1) := by decide +kernel
theorem dX2_fits_31 : decode cX2_fits 31 = .ok (.invokevirtual 32, 3) := by decide +kernel
theorem dX2_fits_34 : decode cX2_fits 34 = .ok (.if_icmp .eq 5, 3) := by decide +kernel
theorem dX2_fits_37 : decode cX2_fits 37 = .ok (.iconst 0, 1) := by decide +kernel
theorem dX2_fits_38 : decode cX2_fits 38 = .ok (.ireturn, 1) := by decide +kernel
theorem dX2_fits_39 : decode cX2_fits 39 = .ok (.iinc 5 1, 3) := by decide +kernel
theorem dX2_fits_42 : decode cX2_fits 42 = .ok (.goto (-39), 3) := by decide +kernel
theorem dX2_fits_45 : decode cX2_fits 45 = .ok (.iconst 1, 1) := by decide +kernel
theorem dX2_fits_46 : decode cX2_fits 46 = .ok (.ireturn, 1) := by decide +kernel
theorem dX3_init_0 : decode cX3_init 0 = .ok (.aload_n 0, 1) := by decide +kernel
theorem dX3_init_1 : decode cX3_init 1 = .ok (.invokespecial 3, 3) := by decide +kernel
theorem dX3_init_4 : decode cX3_init 4 = .ok (.aload_n 0, 1) := by decide +kernel
theorem dX3_init_5 : decode cX3_init 5 = .ok (.bipush 64, 2) := by decide +kernel
theorem dX3_init_7 : decode cX3_init 7 = .ok (.newarray .long, 2) := by decide +kernel
theorem dX3_init_9 : decode cX3_init 9 = .ok (.putfield 11, 3) := by decide +kernel
theorem dX3_init_12 : decode cX3_init 12 = .ok (.aload_n 0, 1) := by decide +kernel
theorem dX3_init_13 : decode cX3_init 13 = .ok (.bipush 6, 2) := by decide +kernel
theorem dX3_init_15 : decode cX3_init 15 = .ok (.newarray .long, 2) := by decide +kernel
theorem dX3_init_17 : decode cX3_init 17 = .ok (.putfield 15, 3) := by decide +kernel
theorem dX3_init_20 : decode cX3_init 20 = .ok (.aload_n 0, 1) := by decide +kernel
theorem dX3_init_21 : decode cX3_init 21 = .ok (.bipush 101, 2) := by decide +kernel
theorem dX3_init_23 : decode cX3_init 23 = .ok (.newarray .long, 2) := by decide +kernel
theorem dX3_init_25 : decode cX3_init 25 = .ok (.putfield 18, 3) := by decide +kernel
theorem dX3_init_28 : decode cX3_init 28 = .ok (.aload_n 0, 1) := by decide +kernel
theorem dX3_init_29 : decode cX3_init 29 = .ok (.bipush 101, 2) := by decide +kernel
theorem dX3_init_31 : decode cX3_init 31 = .ok (.newarray .long, 2) := by decide +kernel
theorem dX3_init_33 : decode cX3_init 33 = .ok (.putfield 21, 3) := by decide +kernel
theorem dX3_init_36 : decode cX3_init 36 = .ok (.return_, 1) := by decide +kernel
theorem dX3_rest_0 : decode cX3_rest 0 = .ok (.lload_n 2, 1) := by decide +kernel
theorem dX3_rest_1 : decode cX3_rest 1 = .ok (.lconst 1, 1) := by decide +kernel
theorem dX3_rest_2 : decode cX3_rest 2 = .ok (.lcmp, 1) := by decide +kernel
theorem dX3_rest_3 : decode cX3_rest 3 = .ok (.ifCond .ge 7, 3) := by decide +kernel
theorem dX3_rest_6 : decode cX3_rest 6 = .ok (.lconst 0, 1) := by decide +kernel
theorem dX3_rest_7 : decode cX3_rest 7 = .ok (.goto 8, 3) := by decide +kernel
theorem dX3_rest_10 : decode cX3_rest 10 = .ok (.lload_n 0, 1) := by decide +kernel
theorem dX3_rest_11 : decode cX3_rest 11 = .ok (.lload_n 2, 1) := by decide +kernel
theorem dX3_rest_12 : decode cX3_rest 12 = .ok (.invokestatic 24, 3) := by decide +kernel
theorem dX3_rest_15 : decode cX3_rest 15 = .ok (.lreturn, 1) := by decide +kernel
theorem dX3_plus_0 : decode cX3_plus 0 = .ok (.lload_n 0, 1) := by decide +kernel
theorem dX3_plus_1 : decode cX3_plus 1 = .ok (.lload_n 2, 1) := by decide +kernel
theorem dX3_plus_2 : decode cX3_plus 2 = .ok (.ladd, 1) := by decide +kernel
theorem dX3_plus_3 : decode cX3_plus 3 = .ok (.lstore 6, 2) := by decide +kernel
theorem dX3_plus_5 : decode cX3_plus 5 = .ok (.lload 6, 2) := by decide +kernel
theorem dX3_plus_7 : decode cX3_plus 7 = .ok (.lload 4, 2) := by decide +kernel
theorem dX3_plus_9 : decode cX3_plus 9 = .ok (.lcmp, 1) := by decide +kernel
theorem dX3_plus_10 : decode cX3_plus 10 = .ok (.ifCond .lt 11, 3) := by decide +kernel
theorem dX3_plus_13 : decode cX3_plus 13 = .ok (.lload 6, 2) := by decide +kernel
theorem dX3_plus_15 : decode cX3_plus 15 = .ok (.lload 4, 2) := by decide +kernel
theorem dX3_plus_17 : decode cX3_plus 17 = .ok (.lsub, 1) := by decide +kernel
theorem dX3_plus_18 : decode cX3_plus 18 = .ok (.goto 5, 3) := by decide +kernel
theorem dX3_plus_21 : decode cX3_plus 21 = .ok (.lload 6, 2) := by decide +kernel
theorem dX3_plus_23 : decode cX3_plus 23 = .ok (.lreturn, 1) := by decide +kernel
theorem dX3_minus_0 : decode cX3_minus 0 = .ok (.lload_n 0, 1) := by decide +kernel
theorem dX3_minus_1 : decode cX3_minus 1 = .ok (.lload_n 2, 1) := by decide +kernel
theorem dX3_minus_2 : decode cX3_minus 2 = .ok (.lcmp, 1) := by decide +kernel
theorem dX3_minus_3 : decode cX3_minus 3 = .ok (.ifCond .lt 9, 3) := by decide +kernel
theorem dX3_minus_6 : decode cX3_minus 6 = .ok (.lload_n 0, 1) := by decide +kernel
theorem dX3_minus_7 : decode cX3_minus 7 = .ok (.lload_n 2, 1) := by decide +kernel
theorem dX3_minus_8 : decode cX3_minus 8 = .ok (.lsub, 1) := by decide +kernel
theorem dX3_minus_9 : decode cX3_minus 9 = .ok (.goto 9, 3) := by decide +kernel
theorem dX3_minus_12 : decode cX3_minus 12 = .ok (.lload_n 0, 1) := by decide +kernel
theorem dX3_minus_13 : decode cX3_minus 13 = .ok (.lload_n 2, 1) := by decide +kernel
theorem dX3_minus_14 : decode cX3_minus 14 = .ok (.lsub, 1) := by decide +kernel
theorem dX3_minus_15 : decode cX3_minus 15 = .ok (.lload 4, 2) := by decide +kernel
theorem dX3_minus_17 : decode cX3_minus 17 = .ok (.ladd, 1) := by decide +kernel
theorem dX3_minus_18 : decode cX3_minus 18 = .ok (.lreturn, 1) := by decide +kernel
theorem dX3_times_0 : decode cX3_times 0 = .ok (.lload_n 0, 1) := by decide +kernel
theorem dX3_times_1 : decode cX3_times 1 = .ok (.ldc2_w 30, 3) := by decide +kernel
theorem dX3_times_4 : decode cX3_times 4 = .ok (.lcmp, 1) := by decide +kernel
theorem dX3_times_5 : decode cX3_times 5 = .ok (.ifCond .lt 18, 3) := by decide +kernel
theorem dX3_times_8 : decode cX3_times 8 = .ok (.lload_n 2, 1) := by decide +kernel
theorem dX3_times_9 : decode cX3_times 9 = .ok (.ldc2_w 30, 3) := by decide +kernel
theorem dX3_times_12 : decode cX3_times 12 = .ok (.lcmp, 1) := by decide +kernel
theorem dX3_times_13 : decode cX3_times 13 = .ok (.ifCond .lt 10, 3) := by decide +kernel
theorem dX3_times_16 : decode cX3_times 16 = .ok (.lload 4, 2) := by decide +kernel
theorem dX3_times_18 : decode cX3_times 18 = .ok (.lconst 1, 1) := by decide +kernel
theorem dX3_times_19 : decode cX3_times 19 = .ok (.lcmp, 1) := by decide +kernel
theorem dX3_times_20 : decode cX3_times 20 = .ok (.ifCond .ge 9, 3) := by decide +kernel
theorem dX3_times_23 : decode cX3_times 23 = .ok (.lload_n 0, 1) := by decide +kernel
theorem dX3_times_24 : decode cX3_times 24 = .ok (.lload_n 2, 1) := by decide +kernel
theorem dX3_times_25 : decode cX3_times 25 = .ok (.lmul, 1) := by decide +kernel
theorem dX3_times_26 : decode cX3_times 26 = .ok (.goto 9, 3) := by decide +kernel
theorem dX3_times_29 : decode cX3_times 29 = .ok (.lload_n 0, 1) := by decide +kernel
theorem dX3_times_30 : decode cX3_times 30 = .ok (.lload_n 2, 1) := by decide +kernel
theorem dX3_times_31 : decode cX3_times 31 = .ok (.lmul, 1) := by decide +kernel
theorem dX3_times_32 : decode cX3_times 32 = .ok (.lload 4, 2) := by decide +kernel
theorem dX3_times_34 : decode cX3_times 34 = .ok (.lrem, 1) := by decide +kernel
theorem dX3_times_35 : decode cX3_times 35 = .ok (.lreturn, 1) := by decide +kernel
theorem dX3_isPrime_0 : decode cX3_isPrime 0 = .ok (.iload_n 0, 1) := by decide +kernel
theorem dX3_isPrime_1 : decode cX3_isPrime 1 = .ok (.iconst 2, 1) := by decide +kernel
theorem dX3_isPrime_2 : decode cX3_isPrime 2 = .ok (.if_icmp .lt 9, 3) := by decide +kernel
theorem dX3_isPrime_5 : decode cX3_isPrime 5 = .ok (.iload_n 0, 1) := by decide +kernel
theorem dX3_isPrime_6 : decode cX3_isPrime 6 = .ok (.ldc 32, 2) := by decide +kernel
theorem dX3_isPrime_8 : decode cX3_isPrime 8 = .ok (.if_icmp .le 5, 3) := by decide +kernel
theorem dX3_isPrime_11 : decode cX3_isPrime 11 = .ok (.iconst 0, 1) := by decide +kernel
theorem dX3_isPrime_12 : decode cX3_isPrime 12 = .ok (.ireturn, 1) := by decide +kernel
theorem dX3_isPrime_13 : decode cX3_isPrime 13 = .ok (.iload_n 0, 1) := by decide +kernel
theorem dX3_isPrime_14 : decode cX3_isPrime 14 = .ok (.iconst 2, 1) := by decide +kernel
theorem dX3_isPrime_15 : decode cX3_isPrime 15 = .ok (.if_icmp .eq 15, 3) := by decide +kernel
theorem dX3_isPrime_18 : decode cX3_isPrime 18 = .ok (.iload_n 0, 1) := by decide +kernel
theorem dX3_isPrime_19 : decode cX3_isPrime 19 = .ok (.bipush 7, 2) := by decide +kernel
theorem dX3_isPrime_21 : decode cX3_isPrime 21 = .ok (.if_icmp .eq 9, 3) := by decide +kernel
theorem dX3_isPrime_24 : decode cX3_isPrime 24 = .ok (.iload_n 0, 1) := by decide +kernel
theorem dX3_isPrime_25 : decode cX3_isPrime 25 = .ok (.bipush 61, 2) := by decide +kernel
theorem dX3_isPrime_27 : decode cX3_isPrime 27 = .ok (.if_icmp .ne 5, 3) := by decide +kernel
theorem dX3_isPrime_30 : decode cX3_isPrime 30 = .ok (.iconst 1, 1) := by decide +kernel
theorem dX3_isPrime_31 : decode cX3_isPrime 31 = .ok (.ireturn, 1) := by decide +kernel
theorem dX3_isPrime_32 : decode cX3_isPrime 32 = .ok (.iload_n 0, 1) := by decide +kernel
theorem dX3_isPrime_33 : decode cX3_isPrime 33 = .ok (.iconst 2, 1) := by decide +kernel
theorem dX3_isPrime_34 : decode cX3_isPrime 34 = .ok (.irem, 1) := by decide +kernel
theorem dX3_isPrime_35 : decode cX3_isPrime 35 = .ok (.ifCond .eq 33, 3) := by decide +kernel
theorem dX3_isPrime_38 : decode cX3_isPrime 38 = .ok (.iconst 2, 1) := by decide +kernel
theorem dX3_isPrime_39 : decode cX3_isPrime 39 = .ok (.iload_n 0, 1) := by decide +kernel
theorem dX3_isPrime_40 : decode cX3_isPrime 40 = .ok (.invokestatic 33, 3) := by decide +kernel
theorem dX3_isPrime_43 : decode cX3_isPrime 43 = .ok (.ifCond .eq 25, 3) := by decide +kernel
theorem dX3_isPrime_46 : decode cX3_isPrime 46 = .ok (.bipush 7, 2) := by decide +kernel
theorem dX3_isPrime_48 : decode cX3_isPrime 48 = .ok (.iload_n 0, 1) := by decide +kernel
theorem dX3_isPrime_49 : decode cX3_isPrime 49 = .ok (.invokestatic 33, 3) := by decide +kernel
theorem dX3_isPrime_52 : decode cX3_isPrime 52 = .ok (.ifCond .eq 16, 3) := by decide +kernel
theorem dX3_isPrime_55 : decode cX3_isPrime 55 = .ok (.bipush 61, 2) := by decide +kernel
theorem dX3_isPrime_57 : decode cX3_isPrime 57 = .ok (.iload_n 0, 1) := by decide +kernel
theorem dX3_isPrime_58 : decode cX3_isPrime 58 = .ok (.invokestatic 33, 3) := by decide +kernel
theorem dX3_isPrime_61 : decode cX3_isPrime 61 = .ok (.ifCond .eq 7, 3) := by decide +kernel
theorem dX3_isPrime_64 : decode cX3_isPrime 64 = .ok (.iconst 1, 1) := by decide +kernel
theorem dX3_isPrime_65 : decode cX3_isPrime 65 = .ok (.goto 4, 3) := by decide +kernel
theorem dX3_isPrime_68 : decode cX3_isPrime 68 = .ok (.iconst 0, 1) := by decide +kernel
theorem dX3_isPrime_69 : decode cX3_isPrime 69 = .ok (.ireturn, 1) := by decide +kernel
theorem dX3_passes_0 : decode cX3_passes 0 = .ok (.iload_n 1, 1) := by decide +kernel
theorem dX3_passes_1 : decode cX3_passes 1 = .ok (.iconst 1, 1) := by decide +kernel
theorem dX3_passes_2 : decode cX3_passes 2 = .ok (.isub, 1) := by decide +kernel
theorem dX3_passes_3 : decode cX3_passes 3 = .ok (.istore_n 2, 1) := by decide +kernel
theorem dX3_passes_4 : decode cX3_passes 4 = .ok (.iconst 0, 1) := by decide +kernel
theorem dX3_passes_5 : decode cX3_passes 5 = .ok (.istore_n 3, 1) := by decide +kernel
theorem dX3_passes_6 : decode cX3_passes 6 = .ok (.iload_n 2, 1) := by decide +kernel
theorem dX3_passes_7 : decode cX3_passes 7 = .ok (.ifCond .le 19, 3) := by decide +kernel
theorem dX3_passes_10 : decode cX3_passes 10 = .ok (.iload_n 2, 1) := by decide +kernel
theorem dX3_passes_11 : decode cX3_passes 11 = .ok (.iconst 2, 1) := by decide +kernel
theorem dX3_passes_12 : decode cX3_passes 12 = .ok (.irem, 1) := by decide +kernel
theorem dX3_passes_13 : decode cX3_passes 13 = .ok (.ifCond .ne 13, 3) := by decide +kernel
theorem dX3_passes_16 : decode cX3_passes 16 = .ok (.iinc 3 1, 3) := by decide +kernel
theorem dX3_passes_19 : decode cX3_passes 19 = .ok (.iload_n 2, 1) := by decide +kernel
theorem dX3_passes_20 : decode cX3_passes 20 = .ok (.iconst 2, 1) := by decide +kernel
theorem dX3_passes_21 : decode cX3_passes 21 = .ok (.idiv, 1) := by decide +kernel
theorem dX3_passes_22 : decode cX3_passes 22 = .ok (.istore_n 2, 1) := by decide +kernel
theorem dX3_passes_23 : decode cX3_passes 23 = .ok (.goto (-17), 3) := by decide +kernel
theorem dX3_passes_26 : decode cX3_passes 26 = .ok (.lconst 1, 1) := by decide +kernel
theorem dX3_passes_27 : decode cX3_passes 27 = .ok (.lstore 4, 2) := by decide +kernel
theorem dX3_passes_29 : decode cX3_passes 29 = .ok (.iload_n 0, 1) := by decide +kernel
theorem dX3_passes_30 : decode cX3_passes 30 = .ok (.i2l, 1) := by decide +kernel
theorem dX3_passes_31 : decode cX3_passes 31 = .ok (.iload_n 1, 1) := by decide +kernel
theorem dX3_passes_32 : decode cX3_passes 32 = .ok (.i2l, 1) := by decide +kernel
theorem dX3_passes_33 : decode cX3_passes 33 = .ok (.invokestatic 37, 3) := by decide +kernel
theorem dX3_passes_36 : decode cX3_passes 36 = .ok (.lstore 6, 2) := by decide +kernel
theorem dX3_passes_38 : decode cX3_passes 38 = .ok (.iload_n 2, 1) := by decide +kernel
theorem dX3_passes_39 : decode cX3_passes 39 = .ok (.ifCond .le 39, 3) := by decide +kernel
theorem dX3_passes_42 : decode cX3_passes 42 = .ok (.iload_n 2, 1) := by decide +kernel
theorem dX3_passes_43 : decode cX3_passes 43 = .ok (.iconst 2, 1) := by decide +kernel
theorem dX3_passes_44 : decode cX3_passes 44 = .ok (.irem, 1) := by decide +kernel
theorem dX3_passes_45 : decode cX3_passes 45 = .ok (.iconst 1, 1) := by decide +kernel
theorem dX3_passes_46 : decode cX3_passes 46 = .ok (.if_icmp .ne 14, 3) := by decide +kernel
theorem dX3_passes_49 : decode cX3_passes 49 = .ok (.lload 4, 2) := by decide +kernel
theorem dX3_passes_51 : decode cX3_passes 51 = .ok (.lload 6, 2) := by decide +kernel
theorem dX3_passes_53 : decode cX3_passes 53 = .ok (.iload_n 1, 1) := by decide +kernel
theorem dX3_passes_54 : decode cX3_passes 54 = .ok (.i2l, 1) := by decide +kernel
theorem dX3_passes_55 : decode cX3_passes 55 = .ok (.invokestatic 40, 3) := by decide +kernel
theorem dX3_passes_58 : decode cX3_passes 58 = .ok (.lstore 4, 2) := by decide +kernel
theorem dX3_passes_60 : decode cX3_passes 60 = .ok (.lload 6, 2) := by decide +kernel
theorem dX3_passes_62 : decode cX3_passes 62 = .ok (.lload 6, 2) := by decide +kernel
theorem dX3_passes_64 : decode cX3_passes 64 = .ok (.iload_n 1, 1) := by decide +kernel
theorem dX3_passes_65 : decode cX3_passes 65 = .ok (.i2l, 1) := by decide +kernel
theorem dX3_passes_66 : decode cX3_passes 66 = .ok (.invokestatic 40, 3) := by decide +kernel
theorem dX3_passes_69 : decode cX3_passes 69 = .ok (.lstore 6, 2) := by decide +kernel
theorem dX3_passes_71 : decode cX3_passes 71 = .ok (.iload_n 2, 1) := by decide +kernel
theorem dX3_passes_72 : decode cX3_passes 72 = .ok (.iconst 2, 1) := by decide +kernel
theorem dX3_passes_73 : decode cX3_passes 73 = .ok (.idiv, 1) := by decide +kernel
theorem dX3_passes_74 : decode cX3_passes 74 = .ok (.istore_n 2, 1) := by decide +kernel
theorem dX3_passes_75 : decode cX3_passes 75 = .ok (.goto (-37), 3) := by decide +kernel
theorem dX3_passes_78 : decode cX3_passes 78 = .ok (.lload 4, 2) := by decide +kernel
theorem dX3_passes_80 : decode cX3_passes 80 = .ok (.lconst 1, 1) := by decide +kernel
theorem dX3_passes_81 : decode cX3_passes 81 = .ok (.lcmp, 1) := by decide +kernel
theorem dX3_passes_82 : decode cX3_passes 82 = .ok (.ifCond .ne 5, 3) := by decide +kernel
theorem dX3_passes_85 : decode cX3_passes 85 = .ok (.iconst 1, 1) := by decide +kernel
theorem dX3_passes_86 : decode cX3_passes 86 = .ok (.ireturn, 1) := by decide +kernel
theorem dX3_passes_87 : decode cX3_passes 87 = .ok (.iconst 0, 1) := by decide +kernel
theorem dX3_passes_88 : decode cX3_passes 88 = .ok (.istore 8, 2) := by decide +kernel
theorem dX3_passes_90 : decode cX3_passes 90 = .ok (.iload 8, 2) := by decide +kernel
theorem dX3_passes_92 : decode cX3_passes 92 = .ok (.iload_n 3, 1) := by decide +kernel
theorem dX3_passes_93 : decode cX3_passes 93 = .ok (.if_icmp .ge 32, 3) := by decide +kernel
theorem dX3_passes_96 : decode cX3_passes 96 = .ok (.lload 4, 2) := by decide +kernel
theorem dX3_passes_98 : decode cX3_passes 98 = .ok (.iload_n 1, 1) := by decide +kernel
theorem dX3_passes_99 : decode cX3_passes 99 = .ok (.iconst 1, 1) := by decide +kernel
theorem dX3_passes_100 : decode cX3_passes 100 = .ok (.isub, 1) := by decide +kernel
theorem dX3_passes_101 : decode cX3_passes 101 = .ok (.i2l, 1) := by decide +kernel
theorem dX3_passes_102 : decode cX3_passes 102 = .ok (.lcmp, 1) := by decide +kernel
theorem dX3_passes_103 : decode cX3_passes 103 = .ok (.ifCond .ne 5, 3) := by decide +kernel
theorem dX3_passes_106 : decode cX3_passes 106 = .ok (.iconst 1, 1) := by decide +kernel
theorem dX3_passes_107 : decode cX3_passes 107 = .ok (.ireturn, 1) := by decide +kernel
theorem dX3_passes_108 : decode cX3_passes 108 = .ok (.lload 4, 2) := by decide +kernel
theorem dX3_passes_110 : decode cX3_passes 110 = .ok (.lload 4, 2) := by decide +kernel
theorem dX3_passes_112 : decode cX3_passes 112 = .ok (.iload_n 1, 1) := by decide +kernel
theorem dX3_passes_113 : decode cX3_passes 113 = .ok (.i2l, 1) := by decide +kernel
theorem dX3_passes_114 : decode cX3_passes 114 = .ok (.invokestatic 40, 3) := by decide +kernel
theorem dX3_passes_117 : decode cX3_passes 117 = .ok (.lstore 4, 2) := by decide +kernel
theorem dX3_passes_119 : decode cX3_passes 119 = .ok (.iinc 8 1, 3) := by decide +kernel
theorem dX3_passes_122 : decode cX3_passes 122 = .ok (.goto (-32), 3) := by decide +kernel
theorem dX3_passes_125 : decode cX3_passes 125 = .ok (.iconst 0, 1) := by decide +kernel
theorem dX3_passes_126 : decode cX3_passes 126 = .ok (.ireturn, 1) := by decide +kernel
theorem dX3_put_0 : decode cX3_put 0 = .ok (.iload_n 1, 1) := by decide +kernel
theorem dX3_put_1 : decode cX3_put 1 = .ok (.ifCond .lt 19, 3) := by decide +kernel
theorem dX3_put_4 : decode cX3_put 4 = .ok (.iload_n 1, 1) := by decide +kernel
theorem dX3_put_5 : decode cX3_put 5 = .ok (.aload_n 0, 1) := by decide +kernel
theorem dX3_put_6 : decode cX3_put 6 = .ok (.getfield 15, 3) := by decide +kernel
theorem dX3_put_9 : decode cX3_put 9 = .ok (.arraylength, 1) := by decide +kernel
theorem dX3_put_10 : decode cX3_put 10 = .ok (.if_icmp .ge 10, 3) := by decide +kernel
theorem dX3_put_13 : decode cX3_put 13 = .ok (.aload_n 0, 1) := by decide +kernel
theorem dX3_put_14 : decode cX3_put 14 = .ok (.getfield 15, 3) := by decide +kernel
theorem dX3_put_17 : decode cX3_put 17 = .ok (.iload_n 1, 1) := by decide +kernel
theorem dX3_put_18 : decode cX3_put 18 = .ok (.lload_n 2, 1) := by decide +kernel
theorem dX3_put_19 : decode cX3_put 19 = .ok (.lastore, 1) := by decide +kernel
theorem dX3_put_20 : decode cX3_put 20 = .ok (.return_, 1) := by decide +kernel
theorem dX3_worthOf_0 : decode cX3_worthOf 0 = .ok (.iconst 0, 1) := by decide +kernel
theorem dX3_worthOf_1 : decode cX3_worthOf 1 = .ok (.istore 4, 2) := by decide +kernel
theorem dX3_worthOf_3 : decode cX3_worthOf 3 = .ok (.aload_n 1, 1) := by decide +kernel
theorem dX3_worthOf_4 : decode cX3_worthOf 4 = .ok (.getfield 44, 3) := by decide +kernel
theorem dX3_worthOf_7 : decode cX3_worthOf 7 = .ok (.astore 5, 2) := by decide +kernel
theorem dX3_worthOf_9 : decode cX3_worthOf 9 = .ok (.aload 5, 2) := by decide +kernel
theorem dX3_worthOf_11 : decode cX3_worthOf 11 = .ok (.arraylength, 1) := by decide +kernel
theorem dX3_worthOf_12 : decode cX3_worthOf 12 = .ok (.istore 6, 2) := by decide +kernel
theorem dX3_worthOf_14 : decode cX3_worthOf 14 = .ok (.iconst 0, 1) := by decide +kernel
theorem dX3_worthOf_15 : decode cX3_worthOf 15 = .ok (.istore 7, 2) := by decide +kernel
theorem dX3_worthOf_17 : decode cX3_worthOf 17 = .ok (.iload 7, 2) := by decide +kernel
theorem dX3_worthOf_19 : decode cX3_worthOf 19 = .ok (.iload 6, 2) := by decide +kernel
theorem dX3_worthOf_21 : decode cX3_worthOf 21 = .ok (.if_icmp .ge 173, 3) := by decide +kernel
theorem dX3_worthOf_24 : decode cX3_worthOf 24 = .ok (.aload 5, 2) := by decide +kernel
theorem dX3_worthOf_26 : decode cX3_worthOf 26 = .ok (.iload 7, 2) := by decide +kernel
theorem dX3_worthOf_28 : decode cX3_worthOf 28 = .ok (.iaload, 1) := by decide +kernel
theorem dX3_worthOf_29 : decode cX3_worthOf 29 = .ok (.istore 8, 2) := by decide +kernel
theorem dX3_worthOf_31 : decode cX3_worthOf 31 = .ok (.iload 8, 2) := by decide +kernel
theorem dX3_worthOf_33 : decode cX3_worthOf 33 = .ok (.ifCond .lt 43, 3) := by decide +kernel
theorem dX3_worthOf_36 : decode cX3_worthOf 36 = .ok (.iload 8, 2) := by decide +kernel
theorem dX3_worthOf_38 : decode cX3_worthOf 38 = .ok (.aload_n 0, 1) := by decide +kernel
theorem dX3_worthOf_39 : decode cX3_worthOf 39 = .ok (.getfield 15, 3) := by decide +kernel
theorem dX3_worthOf_42 : decode cX3_worthOf 42 = .ok (.arraylength, 1) := by decide +kernel
theorem dX3_worthOf_43 : decode cX3_worthOf 43 = .ok (.if_icmp .ge 33, 3) := by decide +kernel
theorem dX3_worthOf_46 : decode cX3_worthOf 46 = .ok (.iload 4, 2) := by decide +kernel
theorem dX3_worthOf_48 : decode cX3_worthOf 48 = .ok (.aload_n 0, 1) := by decide +kernel
theorem dX3_worthOf_49 : decode cX3_worthOf 49 = .ok (.getfield 11, 3) := by decide +kernel
theorem dX3_worthOf_52 : decode cX3_worthOf 52 = .ok (.arraylength, 1) := by decide +kernel
theorem dX3_worthOf_53 : decode cX3_worthOf 53 = .ok (.if_icmp .ge 135, 3) := by decide +kernel
theorem dX3_worthOf_56 : decode cX3_worthOf 56 = .ok (.aload_n 0, 1) := by decide +kernel
theorem dX3_worthOf_57 : decode cX3_worthOf 57 = .ok (.getfield 11, 3) := by decide +kernel
theorem dX3_worthOf_60 : decode cX3_worthOf 60 = .ok (.iload 4, 2) := by decide +kernel
theorem dX3_worthOf_62 : decode cX3_worthOf 62 = .ok (.aload_n 0, 1) := by decide +kernel
theorem dX3_worthOf_63 : decode cX3_worthOf 63 = .ok (.getfield 15, 3) := by decide +kernel
theorem dX3_worthOf_66 : decode cX3_worthOf 66 = .ok (.iload 8, 2) := by decide +kernel
theorem dX3_worthOf_68 : decode cX3_worthOf 68 = .ok (.laload, 1) := by decide +kernel
theorem dX3_worthOf_69 : decode cX3_worthOf 69 = .ok (.lastore, 1) := by decide +kernel
theorem dX3_worthOf_70 : decode cX3_worthOf 70 = .ok (.iinc 4 1, 3) := by decide +kernel
theorem dX3_worthOf_73 : decode cX3_worthOf 73 = .ok (.goto 115, 3) := by decide +kernel
theorem dX3_worthOf_76 : decode cX3_worthOf 76 = .ok (.iload 8, 2) := by decide +kernel
theorem dX3_worthOf_78 : decode cX3_worthOf 78 = .ok (.bipush 6, 2) := by decide +kernel
theorem dX3_worthOf_80 : decode cX3_worthOf 80 = .ok (.if_icmp .ne 34, 3) := by decide +kernel
theorem dX3_worthOf_83 : decode cX3_worthOf 83 = .ok (.iload 4, 2) := by decide +kernel
theorem dX3_worthOf_85 : decode cX3_worthOf 85 = .ok (.ifCond .le 103, 3) := by decide +kernel
theorem dX3_worthOf_88 : decode cX3_worthOf 88 = .ok (.aload_n 0, 1) := by decide +kernel
theorem dX3_worthOf_89 : decode cX3_worthOf 89 = .ok (.getfield 11, 3) := by decide +kernel
theorem dX3_worthOf_92 : decode cX3_worthOf 92 = .ok (.iload 4, 2) := by decide +kernel
theorem dX3_worthOf_94 : decode cX3_worthOf 94 = .ok (.iconst 1, 1) := by decide +kernel
theorem dX3_worthOf_95 : decode cX3_worthOf 95 = .ok (.isub, 1) := by decide +kernel
theorem dX3_worthOf_96 : decode cX3_worthOf 96 = .ok (.lconst 1, 1) := by decide +kernel
theorem dX3_worthOf_97 : decode cX3_worthOf 97 = .ok (.aload_n 0, 1) := by decide +kernel
theorem dX3_worthOf_98 : decode cX3_worthOf 98 = .ok (.getfield 11, 3) := by decide +kernel
theorem dX3_worthOf_101 : decode cX3_worthOf 101 = .ok (.iload 4, 2) := by decide +kernel
theorem dX3_worthOf_103 : decode cX3_worthOf 103 = .ok (.iconst 1, 1) := by decide +kernel
theorem dX3_worthOf_104 : decode cX3_worthOf 104 = .ok (.isub, 1) := by decide +kernel
theorem dX3_worthOf_105 : decode cX3_worthOf 105 = .ok (.laload, 1) := by decide +kernel
theorem dX3_worthOf_106 : decode cX3_worthOf 106 = .ok (.lload_n 2, 1) := by decide +kernel
theorem dX3_worthOf_107 : decode cX3_worthOf 107 = .ok (.invokestatic 50, 3) := by decide +kernel
theorem dX3_worthOf_110 : decode cX3_worthOf 110 = .ok (.lastore, 1) := by decide +kernel
theorem dX3_worthOf_111 : decode cX3_worthOf 111 = .ok (.goto 77, 3) := by decide +kernel
theorem dX3_worthOf_114 : decode cX3_worthOf 114 = .ok (.iload 4, 2) := by decide +kernel
theorem dX3_worthOf_116 : decode cX3_worthOf 116 = .ok (.iconst 1, 1) := by decide +kernel
theorem dX3_worthOf_117 : decode cX3_worthOf 117 = .ok (.if_icmp .le 71, 3) := by decide +kernel
theorem dX3_worthOf_120 : decode cX3_worthOf 120 = .ok (.iinc 4 (-1), 3) := by decide +kernel
theorem dX3_worthOf_123 : decode cX3_worthOf 123 = .ok (.aload_n 0, 1) := by decide +kernel
theorem dX3_worthOf_124 : decode cX3_worthOf 124 = .ok (.getfield 11, 3) := by decide +kernel
theorem dX3_worthOf_127 : decode cX3_worthOf 127 = .ok (.iload 4, 2) := by decide +kernel
theorem dX3_worthOf_129 : decode cX3_worthOf 129 = .ok (.iconst 1, 1) := by decide +kernel
theorem dX3_worthOf_130 : decode cX3_worthOf 130 = .ok (.isub, 1) := by decide +kernel
theorem dX3_worthOf_131 : decode cX3_worthOf 131 = .ok (.laload, 1) := by decide +kernel
theorem dX3_worthOf_132 : decode cX3_worthOf 132 = .ok (.lstore 9, 2) := by decide +kernel
theorem dX3_worthOf_134 : decode cX3_worthOf 134 = .ok (.aload_n 0, 1) := by decide +kernel
theorem dX3_worthOf_135 : decode cX3_worthOf 135 = .ok (.getfield 11, 3) := by decide +kernel
theorem dX3_worthOf_138 : decode cX3_worthOf 138 = .ok (.iload 4, 2) := by decide +kernel
theorem dX3_worthOf_140 : decode cX3_worthOf 140 = .ok (.laload, 1) := by decide +kernel
theorem dX3_worthOf_141 : decode cX3_worthOf 141 = .ok (.lstore 11, 2) := by decide +kernel
theorem dX3_worthOf_143 : decode cX3_worthOf 143 = .ok (.lload 9, 2) := by decide +kernel
theorem dX3_worthOf_145 : decode cX3_worthOf 145 = .ok (.lload 11, 2) := by decide +kernel
theorem dX3_worthOf_147 : decode cX3_worthOf 147 = .ok (.lload_n 2, 1) := by decide +kernel
theorem dX3_worthOf_148 : decode cX3_worthOf 148 = .ok (.invokestatic 40, 3) := by decide +kernel
theorem dX3_worthOf_151 : decode cX3_worthOf 151 = .ok (.lstore 13, 2) := by decide +kernel
theorem dX3_worthOf_153 : decode cX3_worthOf 153 = .ok (.aload_n 0, 1) := by decide +kernel
theorem dX3_worthOf_154 : decode cX3_worthOf 154 = .ok (.getfield 11, 3) := by decide +kernel
theorem dX3_worthOf_157 : decode cX3_worthOf 157 = .ok (.iload 4, 2) := by decide +kernel
theorem dX3_worthOf_159 : decode cX3_worthOf 159 = .ok (.iconst 1, 1) := by decide +kernel
theorem dX3_worthOf_160 : decode cX3_worthOf 160 = .ok (.isub, 1) := by decide +kernel
theorem dX3_worthOf_161 : decode cX3_worthOf 161 = .ok (.iload 8, 2) := by decide +kernel
theorem dX3_worthOf_163 : decode cX3_worthOf 163 = .ok (.bipush 7, 2) := by decide +kernel
theorem dX3_worthOf_165 : decode cX3_worthOf 165 = .ok (.if_icmp .ne 8, 3) := by decide +kernel
theorem dX3_worthOf_168 : decode cX3_worthOf 168 = .ok (.lload 13, 2) := by decide +kernel
theorem dX3_worthOf_170 : decode cX3_worthOf 170 = .ok (.goto 17, 3) := by decide +kernel
theorem dX3_worthOf_173 : decode cX3_worthOf 173 = .ok (.lload 9, 2) := by decide +kernel
theorem dX3_worthOf_175 : decode cX3_worthOf 175 = .ok (.lload 11, 2) := by decide +kernel
theorem dX3_worthOf_177 : decode cX3_worthOf 177 = .ok (.lload_n 2, 1) := by decide +kernel
theorem dX3_worthOf_178 : decode cX3_worthOf 178 = .ok (.invokestatic 53, 3) := by decide +kernel
theorem dX3_worthOf_181 : decode cX3_worthOf 181 = .ok (.lload 13, 2) := by decide +kernel
theorem dX3_worthOf_183 : decode cX3_worthOf 183 = .ok (.lload_n 2, 1) := by decide +kernel
theorem dX3_worthOf_184 : decode cX3_worthOf 184 = .ok (.invokestatic 50, 3) := by decide +kernel
theorem dX3_worthOf_187 : decode cX3_worthOf 187 = .ok (.lastore, 1) := by decide +kernel
theorem dX3_worthOf_188 : decode cX3_worthOf 188 = .ok (.iinc 7 1, 3) := by decide +kernel
theorem dX3_worthOf_191 : decode cX3_worthOf 191 = .ok (.goto (-174), 3) := by decide +kernel
theorem dX3_worthOf_194 : decode cX3_worthOf 194 = .ok (.iload 4, 2) := by decide +kernel
theorem dX3_worthOf_196 : decode cX3_worthOf 196 = .ok (.ifCond .le 15, 3) := by decide +kernel
theorem dX3_worthOf_199 : decode cX3_worthOf 199 = .ok (.aload_n 0, 1) := by decide +kernel
theorem dX3_worthOf_200 : decode cX3_worthOf 200 = .ok (.getfield 11, 3) := by decide +kernel
theorem dX3_worthOf_203 : decode cX3_worthOf 203 = .ok (.iload 4, 2) := by decide +kernel
theorem dX3_worthOf_205 : decode cX3_worthOf 205 = .ok (.iconst 1, 1) := by decide +kernel
theorem dX3_worthOf_206 : decode cX3_worthOf 206 = .ok (.isub, 1) := by decide +kernel
theorem dX3_worthOf_207 : decode cX3_worthOf 207 = .ok (.laload, 1) := by decide +kernel
theorem dX3_worthOf_208 : decode cX3_worthOf 208 = .ok (.goto 4, 3) := by decide +kernel
theorem dX3_worthOf_211 : decode cX3_worthOf 211 = .ok (.lconst 0, 1) := by decide +kernel
theorem dX3_worthOf_212 : decode cX3_worthOf 212 = .ok (.lreturn, 1) := by decide +kernel
theorem dX3_overCorners_0 : decode cX3_overCorners 0 = .ok (.iconst 0, 1) := by decide +kernel
theorem dX3_overCorners_1 : decode cX3_overCorners 1 = .ok (.aload_n 1, 1) := by decide +kernel
theorem dX3_overCorners_2 : decode cX3_overCorners 2 = .ok (.getfield 56, 3) := by decide +kernel
theorem dX3_overCorners_5 : decode cX3_overCorners 5 = .ok (.iload_n 2, 1) := by decide +kernel
theorem dX3_overCorners_6 : decode cX3_overCorners 6 = .ok (.isub, 1) := by decide +kernel
theorem dX3_overCorners_7 : decode cX3_overCorners 7 = .ok (.invokestatic 60, 3) := by decide +kernel
theorem dX3_overCorners_10 : decode cX3_overCorners 10 = .ok (.istore 5, 2) := by decide +kernel
theorem dX3_overCorners_12 : decode cX3_overCorners 12 = .ok (.lconst 0, 1) := by decide +kernel
theorem dX3_overCorners_13 : decode cX3_overCorners 13 = .ok (.lstore 6, 2) := by decide +kernel
theorem dX3_overCorners_15 : decode cX3_overCorners 15 = .ok (.iconst 0, 1) := by decide +kernel
theorem dX3_overCorners_16 : decode cX3_overCorners 16 = .ok (.istore 8, 2) := by decide +kernel
theorem dX3_overCorners_18 : decode cX3_overCorners 18 = .ok (.iload 8, 2) := by decide +kernel
theorem dX3_overCorners_20 : decode cX3_overCorners 20 = .ok (.iconst 1, 1) := by decide +kernel
theorem dX3_overCorners_21 : decode cX3_overCorners 21 = .ok (.iload 5, 2) := by decide +kernel
theorem dX3_overCorners_23 : decode cX3_overCorners 23 = .ok (.ishl, 1) := by decide +kernel
theorem dX3_overCorners_24 : decode cX3_overCorners 24 = .ok (.if_icmp .ge 55, 3) := by decide +kernel
theorem dX3_overCorners_27 : decode cX3_overCorners 27 = .ok (.iconst 0, 1) := by decide +kernel
theorem dX3_overCorners_28 : decode cX3_overCorners 28 = .ok (.istore 9, 2) := by decide +kernel
theorem dX3_overCorners_30 : decode cX3_overCorners 30 = .ok (.iload 9, 2) := by decide +kernel
theorem dX3_overCorners_32 : decode cX3_overCorners 32 = .ok (.iload 5, 2) := by decide +kernel
theorem dX3_overCorners_34 : decode cX3_overCorners 34 = .ok (.if_icmp .ge 25, 3) := by decide +kernel
theorem dX3_overCorners_37 : decode cX3_overCorners 37 = .ok (.aload_n 0, 1) := by decide +kernel
theorem dX3_overCorners_38 : decode cX3_overCorners 38 = .ok (.iload_n 2, 1) := by decide +kernel
theorem dX3_overCorners_39 : decode cX3_overCorners 39 = .ok (.iload 9, 2) := by decide +kernel
theorem dX3_overCorners_41 : decode cX3_overCorners 41 = .ok (.iadd, 1) := by decide +kernel
theorem dX3_overCorners_42 : decode cX3_overCorners 42 = .ok (.iload 8, 2) := by decide +kernel
theorem dX3_overCorners_44 : decode cX3_overCorners 44 = .ok (.iload 9, 2) := by decide +kernel
theorem dX3_overCorners_46 : decode cX3_overCorners 46 = .ok (.ishr, 1) := by decide +kernel
theorem dX3_overCorners_47 : decode cX3_overCorners 47 = .ok (.iconst 1, 1) := by decide +kernel
theorem dX3_overCorners_48 : decode cX3_overCorners 48 = .ok (.iand, 1) := by decide +kernel
theorem dX3_overCorners_49 : decode cX3_overCorners 49 = .ok (.i2l, 1) := by decide +kernel
theorem dX3_overCorners_50 : decode cX3_overCorners 50 = .ok (.invokevirtual 64, 3) := by decide +kernel
theorem dX3_overCorners_53 : decode cX3_overCorners 53 = .ok (.iinc 9 1, 3) := by decide +kernel
theorem dX3_overCorners_56 : decode cX3_overCorners 56 = .ok (.goto (-26), 3) := by decide +kernel
theorem dX3_overCorners_59 : decode cX3_overCorners 59 = .ok (.lload 6, 2) := by decide +kernel
theorem dX3_overCorners_61 : decode cX3_overCorners 61 = .ok (.aload_n 0, 1) := by decide +kernel
theorem dX3_overCorners_62 : decode cX3_overCorners 62 = .ok (.aload_n 1, 1) := by decide +kernel
theorem dX3_overCorners_63 : decode cX3_overCorners 63 = .ok (.lload_n 3, 1) := by decide +kernel
theorem dX3_overCorners_64 : decode cX3_overCorners 64 = .ok (.invokevirtual 68, 3) := by decide +kernel
theorem dX3_overCorners_67 : decode cX3_overCorners 67 = .ok (.lload_n 3, 1) := by decide +kernel
theorem dX3_overCorners_68 : decode cX3_overCorners 68 = .ok (.invokestatic 53, 3) := by decide +kernel
theorem dX3_overCorners_71 : decode cX3_overCorners 71 = .ok (.lstore 6, 2) := by decide +kernel
theorem dX3_overCorners_73 : decode cX3_overCorners 73 = .ok (.iinc 8 1, 3) := by decide +kernel
theorem dX3_overCorners_76 : decode cX3_overCorners 76 = .ok (.goto (-58), 3) := by decide +kernel
theorem dX3_overCorners_79 : decode cX3_overCorners 79 = .ok (.lload 6, 2) := by decide +kernel
theorem dX3_overCorners_81 : decode cX3_overCorners 81 = .ok (.lreturn, 1) := by decide +kernel
theorem dX3_gameWorth_0 : decode cX3_gameWorth 0 = .ok (.iload 5, 2) := by decide +kernel
theorem dX3_gameWorth_2 : decode cX3_gameWorth 2 = .ok (.aload_n 1, 1) := by decide +kernel
theorem dX3_gameWorth_3 : decode cX3_gameWorth 3 = .ok (.getfield 56, 3) := by decide +kernel
theorem dX3_gameWorth_6 : decode cX3_gameWorth 6 = .ok (.if_icmp .ge 10, 3) := by decide +kernel
theorem dX3_gameWorth_9 : decode cX3_gameWorth 9 = .ok (.iload 5, 2) := by decide +kernel
theorem dX3_gameWorth_11 : decode cX3_gameWorth 11 = .ok (.bipush 6, 2) := by decide +kernel
theorem dX3_gameWorth_13 : decode cX3_gameWorth 13 = .ok (.if_icmp .lt 10, 3) := by decide +kernel
theorem dX3_gameWorth_16 : decode cX3_gameWorth 16 = .ok (.aload_n 0, 1) := by decide +kernel
theorem dX3_gameWorth_17 : decode cX3_gameWorth 17 = .ok (.aload_n 1, 1) := by decide +kernel
theorem dX3_gameWorth_18 : decode cX3_gameWorth 18 = .ok (.lload_n 3, 1) := by decide +kernel
theorem dX3_gameWorth_19 : decode cX3_gameWorth 19 = .ok (.invokevirtual 68, 3) := by decide +kernel
theorem dX3_gameWorth_22 : decode cX3_gameWorth 22 = .ok (.lreturn, 1) := by decide +kernel
theorem dX3_gameWorth_23 : decode cX3_gameWorth 23 = .ok (.aload_n 0, 1) := by decide +kernel
theorem dX3_gameWorth_24 : decode cX3_gameWorth 24 = .ok (.iload 5, 2) := by decide +kernel
theorem dX3_gameWorth_26 : decode cX3_gameWorth 26 = .ok (.lconst 0, 1) := by decide +kernel
theorem dX3_gameWorth_27 : decode cX3_gameWorth 27 = .ok (.invokevirtual 64, 3) := by decide +kernel
theorem dX3_gameWorth_30 : decode cX3_gameWorth 30 = .ok (.aload_n 0, 1) := by decide +kernel
theorem dX3_gameWorth_31 : decode cX3_gameWorth 31 = .ok (.aload_n 1, 1) := by decide +kernel
theorem dX3_gameWorth_32 : decode cX3_gameWorth 32 = .ok (.iload_n 2, 1) := by decide +kernel
theorem dX3_gameWorth_33 : decode cX3_gameWorth 33 = .ok (.lload_n 3, 1) := by decide +kernel
theorem dX3_gameWorth_34 : decode cX3_gameWorth 34 = .ok (.iload 5, 2) := by decide +kernel
theorem dX3_gameWorth_36 : decode cX3_gameWorth 36 = .ok (.iconst 1, 1) := by decide +kernel
theorem dX3_gameWorth_37 : decode cX3_gameWorth 37 = .ok (.iadd, 1) := by decide +kernel
theorem dX3_gameWorth_38 : decode cX3_gameWorth 38 = .ok (.invokevirtual 72, 3) := by decide +kernel
theorem dX3_gameWorth_41 : decode cX3_gameWorth 41 = .ok (.lstore 6, 2) := by decide +kernel
theorem dX3_gameWorth_43 : decode cX3_gameWorth 43 = .ok (.aload_n 0, 1) := by decide +kernel
theorem dX3_gameWorth_44 : decode cX3_gameWorth 44 = .ok (.iload 5, 2) := by decide +kernel
theorem dX3_gameWorth_46 : decode cX3_gameWorth 46 = .ok (.lconst 1, 1) := by decide +kernel
theorem dX3_gameWorth_47 : decode cX3_gameWorth 47 = .ok (.invokevirtual 64, 3) := by decide +kernel
theorem dX3_gameWorth_50 : decode cX3_gameWorth 50 = .ok (.aload_n 0, 1) := by decide +kernel
theorem dX3_gameWorth_51 : decode cX3_gameWorth 51 = .ok (.aload_n 1, 1) := by decide +kernel
theorem dX3_gameWorth_52 : decode cX3_gameWorth 52 = .ok (.iload_n 2, 1) := by decide +kernel
theorem dX3_gameWorth_53 : decode cX3_gameWorth 53 = .ok (.lload_n 3, 1) := by decide +kernel
theorem dX3_gameWorth_54 : decode cX3_gameWorth 54 = .ok (.iload 5, 2) := by decide +kernel
theorem dX3_gameWorth_56 : decode cX3_gameWorth 56 = .ok (.iconst 1, 1) := by decide +kernel
theorem dX3_gameWorth_57 : decode cX3_gameWorth 57 = .ok (.iadd, 1) := by decide +kernel
theorem dX3_gameWorth_58 : decode cX3_gameWorth 58 = .ok (.invokevirtual 72, 3) := by decide +kernel
theorem dX3_gameWorth_61 : decode cX3_gameWorth 61 = .ok (.lstore 8, 2) := by decide +kernel
theorem dX3_gameWorth_63 : decode cX3_gameWorth 63 = .ok (.lload 6, 2) := by decide +kernel
theorem dX3_gameWorth_65 : decode cX3_gameWorth 65 = .ok (.lload 8, 2) := by decide +kernel
theorem dX3_gameWorth_67 : decode cX3_gameWorth 67 = .ok (.lload_n 3, 1) := by decide +kernel
theorem dX3_gameWorth_68 : decode cX3_gameWorth 68 = .ok (.invokestatic 40, 3) := by decide +kernel
theorem dX3_gameWorth_71 : decode cX3_gameWorth 71 = .ok (.lstore 10, 2) := by decide +kernel
theorem dX3_gameWorth_73 : decode cX3_gameWorth 73 = .ok (.iload_n 2, 1) := by decide +kernel
theorem dX3_gameWorth_74 : decode cX3_gameWorth 74 = .ok (.iload 5, 2) := by decide +kernel
theorem dX3_gameWorth_76 : decode cX3_gameWorth 76 = .ok (.ishr, 1) := by decide +kernel
theorem dX3_gameWorth_77 : decode cX3_gameWorth 77 = .ok (.iconst 1, 1) := by decide +kernel
theorem dX3_gameWorth_78 : decode cX3_gameWorth 78 = .ok (.iand, 1) := by decide +kernel
theorem dX3_gameWorth_79 : decode cX3_gameWorth 79 = .ok (.iconst 1, 1) := by decide +kernel
theorem dX3_gameWorth_80 : decode cX3_gameWorth 80 = .ok (.if_icmp .ne 8, 3) := by decide +kernel
theorem dX3_gameWorth_83 : decode cX3_gameWorth 83 = .ok (.lload 10, 2) := by decide +kernel
theorem dX3_gameWorth_85 : decode cX3_gameWorth 85 = .ok (.goto 17, 3) := by decide +kernel
theorem dX3_gameWorth_88 : decode cX3_gameWorth 88 = .ok (.lload 6, 2) := by decide +kernel
theorem dX3_gameWorth_90 : decode cX3_gameWorth 90 = .ok (.lload 8, 2) := by decide +kernel
theorem dX3_gameWorth_92 : decode cX3_gameWorth 92 = .ok (.lload_n 3, 1) := by decide +kernel
theorem dX3_gameWorth_93 : decode cX3_gameWorth 93 = .ok (.invokestatic 53, 3) := by decide +kernel
theorem dX3_gameWorth_96 : decode cX3_gameWorth 96 = .ok (.lload 10, 2) := by decide +kernel
theorem dX3_gameWorth_98 : decode cX3_gameWorth 98 = .ok (.lload_n 3, 1) := by decide +kernel
theorem dX3_gameWorth_99 : decode cX3_gameWorth 99 = .ok (.invokestatic 50, 3) := by decide +kernel
theorem dX3_gameWorth_102 : decode cX3_gameWorth 102 = .ok (.lreturn, 1) := by decide +kernel
theorem dX3_curveAt_0 : decode cX3_curveAt 0 = .ok (.iload_n 2, 1) := by decide +kernel
theorem dX3_curveAt_1 : decode cX3_curveAt 1 = .ok (.aload_n 1, 1) := by decide +kernel
theorem dX3_curveAt_2 : decode cX3_curveAt 2 = .ok (.arraylength, 1) := by decide +kernel
theorem dX3_curveAt_3 : decode cX3_curveAt 3 = .ok (.aload_n 0, 1) := by decide +kernel
theorem dX3_curveAt_4 : decode cX3_curveAt 4 = .ok (.getfield 18, 3) := by decide +kernel
theorem dX3_curveAt_7 : decode cX3_curveAt 7 = .ok (.arraylength, 1) := by decide +kernel
theorem dX3_curveAt_8 : decode cX3_curveAt 8 = .ok (.invokestatic 76, 3) := by decide +kernel
theorem dX3_curveAt_11 : decode cX3_curveAt 11 = .ok (.invokestatic 76, 3) := by decide +kernel
theorem dX3_curveAt_14 : decode cX3_curveAt 14 = .ok (.istore 7, 2) := by decide +kernel
theorem dX3_curveAt_16 : decode cX3_curveAt 16 = .ok (.lload 5, 2) := by decide +kernel
theorem dX3_curveAt_18 : decode cX3_curveAt 18 = .ok (.lconst 0, 1) := by decide +kernel
theorem dX3_curveAt_19 : decode cX3_curveAt 19 = .ok (.lcmp, 1) := by decide +kernel
theorem dX3_curveAt_20 : decode cX3_curveAt 20 = .ok (.ifCond .lt 18, 3) := by decide +kernel
theorem dX3_curveAt_23 : decode cX3_curveAt 23 = .ok (.lload 5, 2) := by decide +kernel
theorem dX3_curveAt_25 : decode cX3_curveAt 25 = .ok (.iload 7, 2) := by decide +kernel
theorem dX3_curveAt_27 : decode cX3_curveAt 27 = .ok (.i2l, 1) := by decide +kernel
theorem dX3_curveAt_28 : decode cX3_curveAt 28 = .ok (.lcmp, 1) := by decide +kernel
theorem dX3_curveAt_29 : decode cX3_curveAt 29 = .ok (.ifCond .ge 9, 3) := by decide +kernel
theorem dX3_curveAt_32 : decode cX3_curveAt 32 = .ok (.aload_n 1, 1) := by decide +kernel
theorem dX3_curveAt_33 : decode cX3_curveAt 33 = .ok (.lload 5, 2) := by decide +kernel
theorem dX3_curveAt_35 : decode cX3_curveAt 35 = .ok (.l2i, 1) := by decide +kernel
theorem dX3_curveAt_36 : decode cX3_curveAt 36 = .ok (.laload, 1) := by decide +kernel
theorem dX3_curveAt_37 : decode cX3_curveAt 37 = .ok (.lreturn, 1) := by decide +kernel
theorem dX3_curveAt_38 : decode cX3_curveAt 38 = .ok (.iconst 0, 1) := by decide +kernel
theorem dX3_curveAt_39 : decode cX3_curveAt 39 = .ok (.istore 8, 2) := by decide +kernel
theorem dX3_curveAt_41 : decode cX3_curveAt 41 = .ok (.iload 8, 2) := by decide +kernel
theorem dX3_curveAt_43 : decode cX3_curveAt 43 = .ok (.iload 7, 2) := by decide +kernel
theorem dX3_curveAt_45 : decode cX3_curveAt 45 = .ok (.if_icmp .ge 20, 3) := by decide +kernel
theorem dX3_curveAt_48 : decode cX3_curveAt 48 = .ok (.aload_n 0, 1) := by decide +kernel
theorem dX3_curveAt_49 : decode cX3_curveAt 49 = .ok (.getfield 18, 3) := by decide +kernel
theorem dX3_curveAt_52 : decode cX3_curveAt 52 = .ok (.iload 8, 2) := by decide +kernel
theorem dX3_curveAt_54 : decode cX3_curveAt 54 = .ok (.aload_n 1, 1) := by decide +kernel
theorem dX3_curveAt_55 : decode cX3_curveAt 55 = .ok (.iload 8, 2) := by decide +kernel
theorem dX3_curveAt_57 : decode cX3_curveAt 57 = .ok (.laload, 1) := by decide +kernel
theorem dX3_curveAt_58 : decode cX3_curveAt 58 = .ok (.lastore, 1) := by decide +kernel
theorem dX3_curveAt_59 : decode cX3_curveAt 59 = .ok (.iinc 8 1, 3) := by decide +kernel
theorem dX3_curveAt_62 : decode cX3_curveAt 62 = .ok (.goto (-21), 3) := by decide +kernel
theorem dX3_curveAt_65 : decode cX3_curveAt 65 = .ok (.aload_n 0, 1) := by decide +kernel
theorem dX3_curveAt_66 : decode cX3_curveAt 66 = .ok (.iload 7, 2) := by decide +kernel
theorem dX3_curveAt_68 : decode cX3_curveAt 68 = .ok (.lload_n 3, 1) := by decide +kernel
theorem dX3_curveAt_69 : decode cX3_curveAt 69 = .ok (.invokevirtual 79, 3) := by decide +kernel
theorem dX3_curveAt_72 : decode cX3_curveAt 72 = .ok (.lconst 0, 1) := by decide +kernel
theorem dX3_curveAt_73 : decode cX3_curveAt 73 = .ok (.lstore 8, 2) := by decide +kernel
theorem dX3_curveAt_75 : decode cX3_curveAt 75 = .ok (.lconst 1, 1) := by decide +kernel
theorem dX3_curveAt_76 : decode cX3_curveAt 76 = .ok (.lstore 10, 2) := by decide +kernel
theorem dX3_curveAt_78 : decode cX3_curveAt 78 = .ok (.iconst 0, 1) := by decide +kernel
theorem dX3_curveAt_79 : decode cX3_curveAt 79 = .ok (.istore 12, 2) := by decide +kernel
theorem dX3_curveAt_81 : decode cX3_curveAt 81 = .ok (.iload 12, 2) := by decide +kernel
theorem dX3_curveAt_83 : decode cX3_curveAt 83 = .ok (.iload 7, 2) := by decide +kernel
theorem dX3_curveAt_85 : decode cX3_curveAt 85 = .ok (.if_icmp .ge 121, 3) := by decide +kernel
theorem dX3_curveAt_88 : decode cX3_curveAt 88 = .ok (.lload 8, 2) := by decide +kernel
theorem dX3_curveAt_90 : decode cX3_curveAt 90 = .ok (.lload 10, 2) := by decide +kernel
theorem dX3_curveAt_92 : decode cX3_curveAt 92 = .ok (.aload_n 0, 1) := by decide +kernel
theorem dX3_curveAt_93 : decode cX3_curveAt 93 = .ok (.getfield 18, 3) := by decide +kernel
theorem dX3_curveAt_96 : decode cX3_curveAt 96 = .ok (.iconst 0, 1) := by decide +kernel
theorem dX3_curveAt_97 : decode cX3_curveAt 97 = .ok (.laload, 1) := by decide +kernel
theorem dX3_curveAt_98 : decode cX3_curveAt 98 = .ok (.lload_n 3, 1) := by decide +kernel
theorem dX3_curveAt_99 : decode cX3_curveAt 99 = .ok (.invokestatic 40, 3) := by decide +kernel
theorem dX3_curveAt_102 : decode cX3_curveAt 102 = .ok (.lload_n 3, 1) := by decide +kernel
theorem dX3_curveAt_103 : decode cX3_curveAt 103 = .ok (.invokestatic 53, 3) := by decide +kernel
theorem dX3_curveAt_106 : decode cX3_curveAt 106 = .ok (.lstore 8, 2) := by decide +kernel
theorem dX3_curveAt_108 : decode cX3_curveAt 108 = .ok (.iconst 0, 1) := by decide +kernel
theorem dX3_curveAt_109 : decode cX3_curveAt 109 = .ok (.istore 13, 2) := by decide +kernel
theorem dX3_curveAt_111 : decode cX3_curveAt 111 = .ok (.iload 13, 2) := by decide +kernel
theorem dX3_curveAt_113 : decode cX3_curveAt 113 = .ok (.iconst 1, 1) := by decide +kernel
theorem dX3_curveAt_114 : decode cX3_curveAt 114 = .ok (.iadd, 1) := by decide +kernel
theorem dX3_curveAt_115 : decode cX3_curveAt 115 = .ok (.iload 7, 2) := by decide +kernel
theorem dX3_curveAt_117 : decode cX3_curveAt 117 = .ok (.iload 12, 2) := by decide +kernel
theorem dX3_curveAt_119 : decode cX3_curveAt 119 = .ok (.isub, 1) := by decide +kernel
theorem dX3_curveAt_120 : decode cX3_curveAt 120 = .ok (.if_icmp .ge 36, 3) := by decide +kernel
theorem dX3_curveAt_123 : decode cX3_curveAt 123 = .ok (.aload_n 0, 1) := by decide +kernel
theorem dX3_curveAt_124 : decode cX3_curveAt 124 = .ok (.getfield 18, 3) := by decide +kernel
theorem dX3_curveAt_127 : decode cX3_curveAt 127 = .ok (.iload 13, 2) := by decide +kernel
theorem dX3_curveAt_129 : decode cX3_curveAt 129 = .ok (.aload_n 0, 1) := by decide +kernel
theorem dX3_curveAt_130 : decode cX3_curveAt 130 = .ok (.getfield 18, 3) := by decide +kernel
theorem dX3_curveAt_133 : decode cX3_curveAt 133 = .ok (.iload 13, 2) := by decide +kernel
theorem dX3_curveAt_135 : decode cX3_curveAt 135 = .ok (.iconst 1, 1) := by decide +kernel
theorem dX3_curveAt_136 : decode cX3_curveAt 136 = .ok (.iadd, 1) := by decide +kernel
theorem dX3_curveAt_137 : decode cX3_curveAt 137 = .ok (.laload, 1) := by decide +kernel
theorem dX3_curveAt_138 : decode cX3_curveAt 138 = .ok (.aload_n 0, 1) := by decide +kernel
theorem dX3_curveAt_139 : decode cX3_curveAt 139 = .ok (.getfield 18, 3) := by decide +kernel
theorem dX3_curveAt_142 : decode cX3_curveAt 142 = .ok (.iload 13, 2) := by decide +kernel
theorem dX3_curveAt_144 : decode cX3_curveAt 144 = .ok (.laload, 1) := by decide +kernel
theorem dX3_curveAt_145 : decode cX3_curveAt 145 = .ok (.lload_n 3, 1) := by decide +kernel
theorem dX3_curveAt_146 : decode cX3_curveAt 146 = .ok (.invokestatic 50, 3) := by decide +kernel
theorem dX3_curveAt_149 : decode cX3_curveAt 149 = .ok (.lastore, 1) := by decide +kernel
theorem dX3_curveAt_150 : decode cX3_curveAt 150 = .ok (.iinc 13 1, 3) := by decide +kernel
theorem dX3_curveAt_153 : decode cX3_curveAt 153 = .ok (.goto (-42), 3) := by decide +kernel
theorem dX3_curveAt_156 : decode cX3_curveAt 156 = .ok (.iload 12, 2) := by decide +kernel
theorem dX3_curveAt_158 : decode cX3_curveAt 158 = .ok (.iconst 1, 1) := by decide +kernel
theorem dX3_curveAt_159 : decode cX3_curveAt 159 = .ok (.iadd, 1) := by decide +kernel
theorem dX3_curveAt_160 : decode cX3_curveAt 160 = .ok (.iload 7, 2) := by decide +kernel
theorem dX3_curveAt_162 : decode cX3_curveAt 162 = .ok (.if_icmp .ge 38, 3) := by decide +kernel
theorem dX3_curveAt_165 : decode cX3_curveAt 165 = .ok (.lload 10, 2) := by decide +kernel
theorem dX3_curveAt_167 : decode cX3_curveAt 167 = .ok (.lload 5, 2) := by decide +kernel
theorem dX3_curveAt_169 : decode cX3_curveAt 169 = .ok (.iload 12, 2) := by decide +kernel
theorem dX3_curveAt_171 : decode cX3_curveAt 171 = .ok (.i2l, 1) := by decide +kernel
theorem dX3_curveAt_172 : decode cX3_curveAt 172 = .ok (.lsub, 1) := by decide +kernel
theorem dX3_curveAt_173 : decode cX3_curveAt 173 = .ok (.lload_n 3, 1) := by decide +kernel
theorem dX3_curveAt_174 : decode cX3_curveAt 174 = .ok (.invokestatic 37, 3) := by decide +kernel
theorem dX3_curveAt_177 : decode cX3_curveAt 177 = .ok (.lload_n 3, 1) := by decide +kernel
theorem dX3_curveAt_178 : decode cX3_curveAt 178 = .ok (.invokestatic 40, 3) := by decide +kernel
theorem dX3_curveAt_181 : decode cX3_curveAt 181 = .ok (.lstore 10, 2) := by decide +kernel
theorem dX3_curveAt_183 : decode cX3_curveAt 183 = .ok (.lload 10, 2) := by decide +kernel
theorem dX3_curveAt_185 : decode cX3_curveAt 185 = .ok (.aload_n 0, 1) := by decide +kernel
theorem dX3_curveAt_186 : decode cX3_curveAt 186 = .ok (.getfield 21, 3) := by decide +kernel
theorem dX3_curveAt_189 : decode cX3_curveAt 189 = .ok (.iload 12, 2) := by decide +kernel
theorem dX3_curveAt_191 : decode cX3_curveAt 191 = .ok (.iconst 1, 1) := by decide +kernel
theorem dX3_curveAt_192 : decode cX3_curveAt 192 = .ok (.iadd, 1) := by decide +kernel
theorem dX3_curveAt_193 : decode cX3_curveAt 193 = .ok (.laload, 1) := by decide +kernel
theorem dX3_curveAt_194 : decode cX3_curveAt 194 = .ok (.lload_n 3, 1) := by decide +kernel
theorem dX3_curveAt_195 : decode cX3_curveAt 195 = .ok (.invokestatic 40, 3) := by decide +kernel
theorem dX3_curveAt_198 : decode cX3_curveAt 198 = .ok (.lstore 10, 2) := by decide +kernel
theorem dX3_curveAt_200 : decode cX3_curveAt 200 = .ok (.iinc 12 1, 3) := by decide +kernel
theorem dX3_curveAt_203 : decode cX3_curveAt 203 = .ok (.goto (-122), 3) := by decide +kernel
theorem dX3_curveAt_206 : decode cX3_curveAt 206 = .ok (.lload 8, 2) := by decide +kernel
theorem dX3_curveAt_208 : decode cX3_curveAt 208 = .ok (.lreturn, 1) := by decide +kernel
theorem dX3_fillInverses_0 : decode cX3_fillInverses 0 = .ok (.iconst 1, 1) := by decide +kernel
theorem dX3_fillInverses_1 : decode cX3_fillInverses 1 = .ok (.istore 4, 2) := by decide +kernel
theorem dX3_fillInverses_3 : decode cX3_fillInverses 3 = .ok (.iload 4, 2) := by decide +kernel
theorem dX3_fillInverses_5 : decode cX3_fillInverses 5 = .ok (.iload_n 1, 1) := by decide +kernel
theorem dX3_fillInverses_6 : decode cX3_fillInverses 6 = .ok (.if_icmp .ge 71, 3) := by decide +kernel
theorem dX3_fillInverses_9 : decode cX3_fillInverses 9 = .ok (.iload 4, 2) := by decide +kernel
theorem dX3_fillInverses_11 : decode cX3_fillInverses 11 = .ok (.aload_n 0, 1) := by decide +kernel
theorem dX3_fillInverses_12 : decode cX3_fillInverses 12 = .ok (.getfield 21, 3) := by decide +kernel
theorem dX3_fillInverses_15 : decode cX3_fillInverses 15 = .ok (.arraylength, 1) := by decide +kernel
theorem dX3_fillInverses_16 : decode cX3_fillInverses 16 = .ok (.if_icmp .ge 61, 3) := by decide +kernel
theorem dX3_fillInverses_19 : decode cX3_fillInverses 19 = .ok (.lload_n 2, 1) := by decide +kernel
theorem dX3_fillInverses_20 : decode cX3_fillInverses 20 = .ok (.iload 4, 2) := by decide +kernel
theorem dX3_fillInverses_22 : decode cX3_fillInverses 22 = .ok (.i2l, 1) := by decide +kernel
theorem dX3_fillInverses_23 : decode cX3_fillInverses 23 = .ok (.invokestatic 37, 3) := by decide +kernel
theorem dX3_fillInverses_26 : decode cX3_fillInverses 26 = .ok (.l2i, 1) := by decide +kernel
theorem dX3_fillInverses_27 : decode cX3_fillInverses 27 = .ok (.istore 5, 2) := by decide +kernel
theorem dX3_fillInverses_29 : decode cX3_fillInverses 29 = .ok (.aload_n 0, 1) := by decide +kernel
theorem dX3_fillInverses_30 : decode cX3_fillInverses 30 = .ok (.getfield 21, 3) := by decide +kernel
theorem dX3_fillInverses_33 : decode cX3_fillInverses 33 = .ok (.iload 4, 2) := by decide +kernel
theorem dX3_fillInverses_35 : decode cX3_fillInverses 35 = .ok (.iload 4, 2) := by decide +kernel
theorem dX3_fillInverses_37 : decode cX3_fillInverses 37 = .ok (.iconst 1, 1) := by decide +kernel
theorem dX3_fillInverses_38 : decode cX3_fillInverses 38 = .ok (.if_icmp .eq 10, 3) := by decide +kernel
theorem dX3_fillInverses_41 : decode cX3_fillInverses 41 = .ok (.iload 5, 2) := by decide +kernel
theorem dX3_fillInverses_43 : decode cX3_fillInverses 43 = .ok (.iload 4, 2) := by decide +kernel
theorem dX3_fillInverses_45 : decode cX3_fillInverses 45 = .ok (.if_icmp .lt 7, 3) := by decide +kernel
theorem dX3_fillInverses_48 : decode cX3_fillInverses 48 = .ok (.lconst 1, 1) := by decide +kernel
theorem dX3_fillInverses_49 : decode cX3_fillInverses 49 = .ok (.goto 21, 3) := by decide +kernel
theorem dX3_fillInverses_52 : decode cX3_fillInverses 52 = .ok (.lload_n 2, 1) := by decide +kernel
theorem dX3_fillInverses_53 : decode cX3_fillInverses 53 = .ok (.lload_n 2, 1) := by decide +kernel
theorem dX3_fillInverses_54 : decode cX3_fillInverses 54 = .ok (.iload 4, 2) := by decide +kernel
theorem dX3_fillInverses_56 : decode cX3_fillInverses 56 = .ok (.i2l, 1) := by decide +kernel
theorem dX3_fillInverses_57 : decode cX3_fillInverses 57 = .ok (.ldiv, 1) := by decide +kernel
theorem dX3_fillInverses_58 : decode cX3_fillInverses 58 = .ok (.lsub, 1) := by decide +kernel
theorem dX3_fillInverses_59 : decode cX3_fillInverses 59 = .ok (.aload_n 0, 1) := by decide +kernel
theorem dX3_fillInverses_60 : decode cX3_fillInverses 60 = .ok (.getfield 21, 3) := by decide +kernel
theorem dX3_fillInverses_63 : decode cX3_fillInverses 63 = .ok (.iload 5, 2) := by decide +kernel
theorem dX3_fillInverses_65 : decode cX3_fillInverses 65 = .ok (.laload, 1) := by decide +kernel
theorem dX3_fillInverses_66 : decode cX3_fillInverses 66 = .ok (.lload_n 2, 1) := by decide +kernel
theorem dX3_fillInverses_67 : decode cX3_fillInverses 67 = .ok (.invokestatic 40, 3) := by decide +kernel
theorem dX3_fillInverses_70 : decode cX3_fillInverses 70 = .ok (.lastore, 1) := by decide +kernel
theorem dX3_fillInverses_71 : decode cX3_fillInverses 71 = .ok (.iinc 4 1, 3) := by decide +kernel
theorem dX3_fillInverses_74 : decode cX3_fillInverses 74 = .ok (.goto (-71), 3) := by decide +kernel
theorem dX3_fillInverses_77 : decode cX3_fillInverses 77 = .ok (.return_, 1) := by decide +kernel
theorem dX3_labelWorth_0 : decode cX3_labelWorth 0 = .ok (.aload_n 1, 1) := by decide +kernel
theorem dX3_labelWorth_1 : decode cX3_labelWorth 1 = .ok (.getfield 82, 3) := by decide +kernel
theorem dX3_labelWorth_4 : decode cX3_labelWorth 4 = .ok (.astore 4, 2) := by decide +kernel
theorem dX3_labelWorth_6 : decode cX3_labelWorth 6 = .ok (.iconst 0, 1) := by decide +kernel
theorem dX3_labelWorth_7 : decode cX3_labelWorth 7 = .ok (.istore 5, 2) := by decide +kernel
theorem dX3_labelWorth_9 : decode cX3_labelWorth 9 = .ok (.aload 4, 2) := by decide +kernel
theorem dX3_labelWorth_11 : decode cX3_labelWorth 11 = .ok (.arraylength, 1) := by decide +kernel
theorem dX3_labelWorth_12 : decode cX3_labelWorth 12 = .ok (.istore 6, 2) := by decide +kernel
theorem dX3_labelWorth_14 : decode cX3_labelWorth 14 = .ok (.iload 6, 2) := by decide +kernel
theorem dX3_labelWorth_16 : decode cX3_labelWorth 16 = .ok (.ifCond .le 103, 3) := by decide +kernel
theorem dX3_labelWorth_19 : decode cX3_labelWorth 19 = .ok (.iload 5, 2) := by decide +kernel
theorem dX3_labelWorth_21 : decode cX3_labelWorth 21 = .ok (.ifCond .lt 98, 3) := by decide +kernel
theorem dX3_labelWorth_24 : decode cX3_labelWorth 24 = .ok (.iload 5, 2) := by decide +kernel
theorem dX3_labelWorth_26 : decode cX3_labelWorth 26 = .ok (.iconst 3, 1) := by decide +kernel
theorem dX3_labelWorth_27 : decode cX3_labelWorth 27 = .ok (.iadd, 1) := by decide +kernel
theorem dX3_labelWorth_28 : decode cX3_labelWorth 28 = .ok (.aload 4, 2) := by decide +kernel
theorem dX3_labelWorth_30 : decode cX3_labelWorth 30 = .ok (.arraylength, 1) := by decide +kernel
theorem dX3_labelWorth_31 : decode cX3_labelWorth 31 = .ok (.if_icmp .gt 88, 3) := by decide +kernel
theorem dX3_labelWorth_34 : decode cX3_labelWorth 34 = .ok (.iload 5, 2) := by decide +kernel
theorem dX3_labelWorth_36 : decode cX3_labelWorth 36 = .ok (.iconst 3, 1) := by decide +kernel
theorem dX3_labelWorth_37 : decode cX3_labelWorth 37 = .ok (.iadd, 1) := by decide +kernel
theorem dX3_labelWorth_38 : decode cX3_labelWorth 38 = .ok (.istore 7, 2) := by decide +kernel
theorem dX3_labelWorth_40 : decode cX3_labelWorth 40 = .ok (.aload 4, 2) := by decide +kernel
theorem dX3_labelWorth_42 : decode cX3_labelWorth 42 = .ok (.iload 5, 2) := by decide +kernel
theorem dX3_labelWorth_44 : decode cX3_labelWorth 44 = .ok (.iconst 1, 1) := by decide +kernel
theorem dX3_labelWorth_45 : decode cX3_labelWorth 45 = .ok (.iadd, 1) := by decide +kernel
theorem dX3_labelWorth_46 : decode cX3_labelWorth 46 = .ok (.iaload, 1) := by decide +kernel
theorem dX3_labelWorth_47 : decode cX3_labelWorth 47 = .ok (.istore 8, 2) := by decide +kernel
theorem dX3_labelWorth_49 : decode cX3_labelWorth 49 = .ok (.aload 4, 2) := by decide +kernel
theorem dX3_labelWorth_51 : decode cX3_labelWorth 51 = .ok (.iload 5, 2) := by decide +kernel
theorem dX3_labelWorth_53 : decode cX3_labelWorth 53 = .ok (.iconst 2, 1) := by decide +kernel
theorem dX3_labelWorth_54 : decode cX3_labelWorth 54 = .ok (.iadd, 1) := by decide +kernel
theorem dX3_labelWorth_55 : decode cX3_labelWorth 55 = .ok (.iaload, 1) := by decide +kernel
theorem dX3_labelWorth_56 : decode cX3_labelWorth 56 = .ok (.istore 9, 2) := by decide +kernel
theorem dX3_labelWorth_58 : decode cX3_labelWorth 58 = .ok (.aload 4, 2) := by decide +kernel
theorem dX3_labelWorth_60 : decode cX3_labelWorth 60 = .ok (.iload 5, 2) := by decide +kernel
theorem dX3_labelWorth_62 : decode cX3_labelWorth 62 = .ok (.iaload, 1) := by decide +kernel
theorem dX3_labelWorth_63 : decode cX3_labelWorth 63 = .ok (.iload_n 2, 1) := by decide +kernel
theorem dX3_labelWorth_64 : decode cX3_labelWorth 64 = .ok (.if_icmp .ne 39, 3) := by decide +kernel
theorem dX3_labelWorth_67 : decode cX3_labelWorth 67 = .ok (.iload 8, 2) := by decide +kernel
theorem dX3_labelWorth_69 : decode cX3_labelWorth 69 = .ok (.ifCond .eq 19, 3) := by decide +kernel
theorem dX3_labelWorth_72 : decode cX3_labelWorth 72 = .ok (.aload_n 0, 1) := by decide +kernel
theorem dX3_labelWorth_73 : decode cX3_labelWorth 73 = .ok (.aload 4, 2) := by decide +kernel
theorem dX3_labelWorth_75 : decode cX3_labelWorth 75 = .ok (.iload 7, 2) := by decide +kernel
theorem dX3_labelWorth_77 : decode cX3_labelWorth 77 = .ok (.iload 8, 2) := by decide +kernel
theorem dX3_labelWorth_79 : decode cX3_labelWorth 79 = .ok (.aload_n 3, 1) := by decide +kernel
theorem dX3_labelWorth_80 : decode cX3_labelWorth 80 = .ok (.invokevirtual 85, 3) := by decide +kernel
theorem dX3_labelWorth_83 : decode cX3_labelWorth 83 = .ok (.lconst 0, 1) := by decide +kernel
theorem dX3_labelWorth_84 : decode cX3_labelWorth 84 = .ok (.lcmp, 1) := by decide +kernel
theorem dX3_labelWorth_85 : decode cX3_labelWorth 85 = .ok (.ifCond .eq 18, 3) := by decide +kernel
theorem dX3_labelWorth_88 : decode cX3_labelWorth 88 = .ok (.aload_n 0, 1) := by decide +kernel
theorem dX3_labelWorth_89 : decode cX3_labelWorth 89 = .ok (.aload 4, 2) := by decide +kernel
theorem dX3_labelWorth_91 : decode cX3_labelWorth 91 = .ok (.iload 7, 2) := by decide +kernel
theorem dX3_labelWorth_93 : decode cX3_labelWorth 93 = .ok (.iload 8, 2) := by decide +kernel
theorem dX3_labelWorth_95 : decode cX3_labelWorth 95 = .ok (.iadd, 1) := by decide +kernel
theorem dX3_labelWorth_96 : decode cX3_labelWorth 96 = .ok (.iload 9, 2) := by decide +kernel
theorem dX3_labelWorth_98 : decode cX3_labelWorth 98 = .ok (.aload_n 3, 1) := by decide +kernel
theorem dX3_labelWorth_99 : decode cX3_labelWorth 99 = .ok (.invokevirtual 85, 3) := by decide +kernel
theorem dX3_labelWorth_102 : decode cX3_labelWorth 102 = .ok (.lreturn, 1) := by decide +kernel
theorem dX3_labelWorth_103 : decode cX3_labelWorth 103 = .ok (.iload 7, 2) := by decide +kernel
theorem dX3_labelWorth_105 : decode cX3_labelWorth 105 = .ok (.iload 8, 2) := by decide +kernel
theorem dX3_labelWorth_107 : decode cX3_labelWorth 107 = .ok (.iadd, 1) := by decide +kernel
theorem dX3_labelWorth_108 : decode cX3_labelWorth 108 = .ok (.iload 9, 2) := by decide +kernel
theorem dX3_labelWorth_110 : decode cX3_labelWorth 110 = .ok (.iadd, 1) := by decide +kernel
theorem dX3_labelWorth_111 : decode cX3_labelWorth 111 = .ok (.istore 5, 2) := by decide +kernel
theorem dX3_labelWorth_113 : decode cX3_labelWorth 113 = .ok (.iinc 6 (-1), 3) := by decide +kernel
theorem dX3_labelWorth_116 : decode cX3_labelWorth 116 = .ok (.goto (-102), 3) := by decide +kernel
theorem dX3_labelWorth_119 : decode cX3_labelWorth 119 = .ok (.lconst 0, 1) := by decide +kernel
theorem dX3_labelWorth_120 : decode cX3_labelWorth 120 = .ok (.lreturn, 1) := by decide +kernel
theorem dX3_reckoned_0 : decode cX3_reckoned 0 = .ok (.iconst 0, 1) := by decide +kernel
theorem dX3_reckoned_1 : decode cX3_reckoned 1 = .ok (.istore 5, 2) := by decide +kernel
theorem dX3_reckoned_3 : decode cX3_reckoned 3 = .ok (.iconst 0, 1) := by decide +kernel
theorem dX3_reckoned_4 : decode cX3_reckoned 4 = .ok (.iload_n 2, 1) := by decide +kernel
theorem dX3_reckoned_5 : decode cX3_reckoned 5 = .ok (.invokestatic 60, 3) := by decide +kernel
theorem dX3_reckoned_8 : decode cX3_reckoned 8 = .ok (.istore 6, 2) := by decide +kernel
theorem dX3_reckoned_10 : decode cX3_reckoned 10 = .ok (.iload 6, 2) := by decide +kernel
theorem dX3_reckoned_12 : decode cX3_reckoned 12 = .ok (.iload_n 2, 1) := by decide +kernel
theorem dX3_reckoned_13 : decode cX3_reckoned 13 = .ok (.iload_n 3, 1) := by decide +kernel
theorem dX3_reckoned_14 : decode cX3_reckoned 14 = .ok (.iadd, 1) := by decide +kernel
theorem dX3_reckoned_15 : decode cX3_reckoned 15 = .ok (.if_icmp .ge 157, 3) := by decide +kernel
theorem dX3_reckoned_18 : decode cX3_reckoned 18 = .ok (.iload 6, 2) := by decide +kernel
theorem dX3_reckoned_20 : decode cX3_reckoned 20 = .ok (.aload_n 1, 1) := by decide +kernel
theorem dX3_reckoned_21 : decode cX3_reckoned 21 = .ok (.arraylength, 1) := by decide +kernel
theorem dX3_reckoned_22 : decode cX3_reckoned 22 = .ok (.if_icmp .ge 150, 3) := by decide +kernel
theorem dX3_reckoned_25 : decode cX3_reckoned 25 = .ok (.aload_n 1, 1) := by decide +kernel
theorem dX3_reckoned_26 : decode cX3_reckoned 26 = .ok (.iload 6, 2) := by decide +kernel
theorem dX3_reckoned_28 : decode cX3_reckoned 28 = .ok (.iaload, 1) := by decide +kernel
theorem dX3_reckoned_29 : decode cX3_reckoned 29 = .ok (.istore 7, 2) := by decide +kernel
theorem dX3_reckoned_31 : decode cX3_reckoned 31 = .ok (.iload 7, 2) := by decide +kernel
theorem dX3_reckoned_33 : decode cX3_reckoned 33 = .ok (.sipush 20000, 3) := by decide +kernel
theorem dX3_reckoned_36 : decode cX3_reckoned 36 = .ok (.if_icmp .ge 51, 3) := by decide +kernel
theorem dX3_reckoned_39 : decode cX3_reckoned 39 = .ok (.iload 5, 2) := by decide +kernel
theorem dX3_reckoned_41 : decode cX3_reckoned 41 = .ok (.aload_n 0, 1) := by decide +kernel
theorem dX3_reckoned_42 : decode cX3_reckoned 42 = .ok (.getfield 11, 3) := by decide +kernel
theorem dX3_reckoned_45 : decode cX3_reckoned 45 = .ok (.arraylength, 1) := by decide +kernel
theorem dX3_reckoned_46 : decode cX3_reckoned 46 = .ok (.if_icmp .ge 120, 3) := by decide +kernel
theorem dX3_reckoned_49 : decode cX3_reckoned 49 = .ok (.aload_n 0, 1) := by decide +kernel
theorem dX3_reckoned_50 : decode cX3_reckoned 50 = .ok (.getfield 11, 3) := by decide +kernel
theorem dX3_reckoned_53 : decode cX3_reckoned 53 = .ok (.iload 5, 2) := by decide +kernel
theorem dX3_reckoned_55 : decode cX3_reckoned 55 = .ok (.iload 7, 2) := by decide +kernel
theorem dX3_reckoned_57 : decode cX3_reckoned 57 = .ok (.sipush 10000, 3) := by decide +kernel
theorem dX3_reckoned_60 : decode cX3_reckoned 60 = .ok (.if_icmp .ge 9, 3) := by decide +kernel
theorem dX3_reckoned_63 : decode cX3_reckoned 63 = .ok (.iload 7, 2) := by decide +kernel
theorem dX3_reckoned_65 : decode cX3_reckoned 65 = .ok (.i2l, 1) := by decide +kernel
theorem dX3_reckoned_66 : decode cX3_reckoned 66 = .ok (.goto 14, 3) := by decide +kernel
theorem dX3_reckoned_69 : decode cX3_reckoned 69 = .ok (.iload 7, 2) := by decide +kernel
theorem dX3_reckoned_71 : decode cX3_reckoned 71 = .ok (.sipush 10000, 3) := by decide +kernel
theorem dX3_reckoned_74 : decode cX3_reckoned 74 = .ok (.isub, 1) := by decide +kernel
theorem dX3_reckoned_75 : decode cX3_reckoned 75 = .ok (.aload 4, 2) := by decide +kernel
theorem dX3_reckoned_77 : decode cX3_reckoned 77 = .ok (.invokestatic 89, 3) := by decide +kernel
theorem dX3_reckoned_80 : decode cX3_reckoned 80 = .ok (.lastore, 1) := by decide +kernel
theorem dX3_reckoned_81 : decode cX3_reckoned 81 = .ok (.iinc 5 1, 3) := by decide +kernel
theorem dX3_reckoned_84 : decode cX3_reckoned 84 = .ok (.goto 82, 3) := by decide +kernel
theorem dX3_reckoned_87 : decode cX3_reckoned 87 = .ok (.iload 7, 2) := by decide +kernel
theorem dX3_reckoned_89 : decode cX3_reckoned 89 = .ok (.sipush 20033, 3) := by decide +kernel
theorem dX3_reckoned_92 : decode cX3_reckoned 92 = .ok (.if_icmp .ne 31, 3) := by decide +kernel
theorem dX3_reckoned_95 : decode cX3_reckoned 95 = .ok (.iload 5, 2) := by decide +kernel
theorem dX3_reckoned_97 : decode cX3_reckoned 97 = .ok (.ifCond .le 69, 3) := by decide +kernel
theorem dX3_reckoned_100 : decode cX3_reckoned 100 = .ok (.aload_n 0, 1) := by decide +kernel
theorem dX3_reckoned_101 : decode cX3_reckoned 101 = .ok (.getfield 11, 3) := by decide +kernel
theorem dX3_reckoned_104 : decode cX3_reckoned 104 = .ok (.iload 5, 2) := by decide +kernel
theorem dX3_reckoned_106 : decode cX3_reckoned 106 = .ok (.iconst 1, 1) := by decide +kernel
theorem dX3_reckoned_107 : decode cX3_reckoned 107 = .ok (.isub, 1) := by decide +kernel
theorem dX3_reckoned_108 : decode cX3_reckoned 108 = .ok (.lconst 1, 1) := by decide +kernel
theorem dX3_reckoned_109 : decode cX3_reckoned 109 = .ok (.aload_n 0, 1) := by decide +kernel
theorem dX3_reckoned_110 : decode cX3_reckoned 110 = .ok (.getfield 11, 3) := by decide +kernel
theorem dX3_reckoned_113 : decode cX3_reckoned 113 = .ok (.iload 5, 2) := by decide +kernel
theorem dX3_reckoned_115 : decode cX3_reckoned 115 = .ok (.iconst 1, 1) := by decide +kernel
theorem dX3_reckoned_116 : decode cX3_reckoned 116 = .ok (.isub, 1) := by decide +kernel
theorem dX3_reckoned_117 : decode cX3_reckoned 117 = .ok (.laload, 1) := by decide +kernel
theorem dX3_reckoned_118 : decode cX3_reckoned 118 = .ok (.lsub, 1) := by decide +kernel
theorem dX3_reckoned_119 : decode cX3_reckoned 119 = .ok (.lastore, 1) := by decide +kernel
theorem dX3_reckoned_120 : decode cX3_reckoned 120 = .ok (.goto 46, 3) := by decide +kernel
theorem dX3_reckoned_123 : decode cX3_reckoned 123 = .ok (.iload 5, 2) := by decide +kernel
theorem dX3_reckoned_125 : decode cX3_reckoned 125 = .ok (.iconst 1, 1) := by decide +kernel
theorem dX3_reckoned_126 : decode cX3_reckoned 126 = .ok (.if_icmp .le 40, 3) := by decide +kernel
theorem dX3_reckoned_129 : decode cX3_reckoned 129 = .ok (.iinc 5 (-1), 3) := by decide +kernel
theorem dX3_reckoned_132 : decode cX3_reckoned 132 = .ok (.aload_n 0, 1) := by decide +kernel
theorem dX3_reckoned_133 : decode cX3_reckoned 133 = .ok (.getfield 11, 3) := by decide +kernel
theorem dX3_reckoned_136 : decode cX3_reckoned 136 = .ok (.iload 5, 2) := by decide +kernel
theorem dX3_reckoned_138 : decode cX3_reckoned 138 = .ok (.iconst 1, 1) := by decide +kernel
theorem dX3_reckoned_139 : decode cX3_reckoned 139 = .ok (.isub, 1) := by decide +kernel
theorem dX3_reckoned_140 : decode cX3_reckoned 140 = .ok (.iload 7, 2) := by decide +kernel
theorem dX3_reckoned_142 : decode cX3_reckoned 142 = .ok (.sipush 20000, 3) := by decide +kernel
theorem dX3_reckoned_145 : decode cX3_reckoned 145 = .ok (.isub, 1) := by decide +kernel
theorem dX3_reckoned_146 : decode cX3_reckoned 146 = .ok (.aload_n 0, 1) := by decide +kernel
theorem dX3_reckoned_147 : decode cX3_reckoned 147 = .ok (.getfield 11, 3) := by decide +kernel
theorem dX3_reckoned_150 : decode cX3_reckoned 150 = .ok (.iload 5, 2) := by decide +kernel
theorem dX3_reckoned_152 : decode cX3_reckoned 152 = .ok (.iconst 1, 1) := by decide +kernel
theorem dX3_reckoned_153 : decode cX3_reckoned 153 = .ok (.isub, 1) := by decide +kernel
theorem dX3_reckoned_154 : decode cX3_reckoned 154 = .ok (.laload, 1) := by decide +kernel
theorem dX3_reckoned_155 : decode cX3_reckoned 155 = .ok (.aload_n 0, 1) := by decide +kernel
theorem dX3_reckoned_156 : decode cX3_reckoned 156 = .ok (.getfield 11, 3) := by decide +kernel
theorem dX3_reckoned_159 : decode cX3_reckoned 159 = .ok (.iload 5, 2) := by decide +kernel
theorem dX3_reckoned_161 : decode cX3_reckoned 161 = .ok (.laload, 1) := by decide +kernel
theorem dX3_reckoned_162 : decode cX3_reckoned 162 = .ok (.invokestatic 93, 3) := by decide +kernel
theorem dX3_reckoned_165 : decode cX3_reckoned 165 = .ok (.lastore, 1) := by decide +kernel
theorem dX3_reckoned_166 : decode cX3_reckoned 166 = .ok (.iinc 6 1, 3) := by decide +kernel
theorem dX3_reckoned_169 : decode cX3_reckoned 169 = .ok (.goto (-159), 3) := by decide +kernel
theorem dX3_reckoned_172 : decode cX3_reckoned 172 = .ok (.iload 5, 2) := by decide +kernel
theorem dX3_reckoned_174 : decode cX3_reckoned 174 = .ok (.ifCond .le 15, 3) := by decide +kernel
theorem dX3_reckoned_177 : decode cX3_reckoned 177 = .ok (.aload_n 0, 1) := by decide +kernel
theorem dX3_reckoned_178 : decode cX3_reckoned 178 = .ok (.getfield 11, 3) := by decide +kernel
theorem dX3_reckoned_181 : decode cX3_reckoned 181 = .ok (.iload 5, 2) := by decide +kernel
theorem dX3_reckoned_183 : decode cX3_reckoned 183 = .ok (.iconst 1, 1) := by decide +kernel
theorem dX3_reckoned_184 : decode cX3_reckoned 184 = .ok (.isub, 1) := by decide +kernel
theorem dX3_reckoned_185 : decode cX3_reckoned 185 = .ok (.laload, 1) := by decide +kernel
theorem dX3_reckoned_186 : decode cX3_reckoned 186 = .ok (.goto 4, 3) := by decide +kernel
theorem dX3_reckoned_189 : decode cX3_reckoned 189 = .ok (.lconst 0, 1) := by decide +kernel
theorem dX3_reckoned_190 : decode cX3_reckoned 190 = .ok (.lreturn, 1) := by decide +kernel
theorem dX3_letterWorth_0 : decode cX3_letterWorth 0 = .ok (.iload_n 0, 1) := by decide +kernel
theorem dX3_letterWorth_1 : decode cX3_letterWorth 1 = .ok (.ifCond .lt 9, 3) := by decide +kernel
theorem dX3_letterWorth_4 : decode cX3_letterWorth 4 = .ok (.iload_n 0, 1) := by decide +kernel
theorem dX3_letterWorth_5 : decode cX3_letterWorth 5 = .ok (.aload_n 1, 1) := by decide +kernel
theorem dX3_letterWorth_6 : decode cX3_letterWorth 6 = .ok (.arraylength, 1) := by decide +kernel
theorem dX3_letterWorth_7 : decode cX3_letterWorth 7 = .ok (.if_icmp .lt 7, 3) := by decide +kernel
theorem dX3_letterWorth_10 : decode cX3_letterWorth 10 = .ok (.lconst 0, 1) := by decide +kernel
theorem dX3_letterWorth_11 : decode cX3_letterWorth 11 = .ok (.goto 6, 3) := by decide +kernel
theorem dX3_letterWorth_14 : decode cX3_letterWorth 14 = .ok (.aload_n 1, 1) := by decide +kernel
theorem dX3_letterWorth_15 : decode cX3_letterWorth 15 = .ok (.iload_n 0, 1) := by decide +kernel
theorem dX3_letterWorth_16 : decode cX3_letterWorth 16 = .ok (.laload, 1) := by decide +kernel
theorem dX3_letterWorth_17 : decode cX3_letterWorth 17 = .ok (.lreturn, 1) := by decide +kernel
theorem dX3_worked_0 : decode cX3_worked 0 = .ok (.iload_n 0, 1) := by decide +kernel
theorem dX3_worked_1 : decode cX3_worked 1 = .ok (.tableswitch 217 38 62 #[213, 217, 217, 217, 147, 115, 217, 131, 217, 163, 217, 217, 217, 217, 217, 217, 217, 217, 217, 217, 217, 217, 189, 177, 201], 115) := by decide +kernel
theorem dX3_worked_116 : decode cX3_worked 116 = .ok (.ldc2_w 97, 3) := by decide +kernel
theorem dX3_worked_119 : decode cX3_worked 119 = .ok (.ldc2_w 99, 3) := by decide +kernel
theorem dX3_worked_122 : decode cX3_worked 122 = .ok (.lload_n 1, 1) := by decide +kernel
theorem dX3_worked_123 : decode cX3_worked 123 = .ok (.lload_n 3, 1) := by decide +kernel
theorem dX3_worked_124 : decode cX3_worked 124 = .ok (.ladd, 1) := by decide +kernel
theorem dX3_worked_125 : decode cX3_worked 125 = .ok (.invokestatic 101, 3) := by decide +kernel
theorem dX3_worked_128 : decode cX3_worked 128 = .ok (.invokestatic 103, 3) := by decide +kernel
theorem dX3_worked_131 : decode cX3_worked 131 = .ok (.lreturn, 1) := by decide +kernel
theorem dX3_worked_132 : decode cX3_worked 132 = .ok (.ldc2_w 97, 3) := by decide +kernel
theorem dX3_worked_135 : decode cX3_worked 135 = .ok (.ldc2_w 99, 3) := by decide +kernel
theorem dX3_worked_138 : decode cX3_worked 138 = .ok (.lload_n 1, 1) := by decide +kernel
theorem dX3_worked_139 : decode cX3_worked 139 = .ok (.lload_n 3, 1) := by decide +kernel
theorem dX3_worked_140 : decode cX3_worked 140 = .ok (.lsub, 1) := by decide +kernel
theorem dX3_worked_141 : decode cX3_worked 141 = .ok (.invokestatic 101, 3) := by decide +kernel
theorem dX3_worked_144 : decode cX3_worked 144 = .ok (.invokestatic 103, 3) := by decide +kernel
theorem dX3_worked_147 : decode cX3_worked 147 = .ok (.lreturn, 1) := by decide +kernel
theorem dX3_worked_148 : decode cX3_worked 148 = .ok (.ldc2_w 97, 3) := by decide +kernel
theorem dX3_worked_151 : decode cX3_worked 151 = .ok (.ldc2_w 99, 3) := by decide +kernel
theorem dX3_worked_154 : decode cX3_worked 154 = .ok (.lload_n 1, 1) := by decide +kernel
theorem dX3_worked_155 : decode cX3_worked 155 = .ok (.lload_n 3, 1) := by decide +kernel
theorem dX3_worked_156 : decode cX3_worked 156 = .ok (.lmul, 1) := by decide +kernel
theorem dX3_worked_157 : decode cX3_worked 157 = .ok (.invokestatic 101, 3) := by decide +kernel
theorem dX3_worked_160 : decode cX3_worked 160 = .ok (.invokestatic 103, 3) := by decide +kernel
theorem dX3_worked_163 : decode cX3_worked 163 = .ok (.lreturn, 1) := by decide +kernel
theorem dX3_worked_164 : decode cX3_worked 164 = .ok (.lload_n 3, 1) := by decide +kernel
theorem dX3_worked_165 : decode cX3_worked 165 = .ok (.lconst 0, 1) := by decide +kernel
theorem dX3_worked_166 : decode cX3_worked 166 = .ok (.lcmp, 1) := by decide +kernel
theorem dX3_worked_167 : decode cX3_worked 167 = .ok (.ifCond .ne 7, 3) := by decide +kernel
theorem dX3_worked_170 : decode cX3_worked 170 = .ok (.lconst 0, 1) := by decide +kernel
theorem dX3_worked_171 : decode cX3_worked 171 = .ok (.goto 6, 3) := by decide +kernel
theorem dX3_worked_174 : decode cX3_worked 174 = .ok (.lload_n 1, 1) := by decide +kernel
theorem dX3_worked_175 : decode cX3_worked 175 = .ok (.lload_n 3, 1) := by decide +kernel
theorem dX3_worked_176 : decode cX3_worked 176 = .ok (.ldiv, 1) := by decide +kernel
theorem dX3_worked_177 : decode cX3_worked 177 = .ok (.lreturn, 1) := by decide +kernel
theorem dX3_worked_178 : decode cX3_worked 178 = .ok (.lload_n 1, 1) := by decide +kernel
theorem dX3_worked_179 : decode cX3_worked 179 = .ok (.lload_n 3, 1) := by decide +kernel
theorem dX3_worked_180 : decode cX3_worked 180 = .ok (.lcmp, 1) := by decide +kernel
theorem dX3_worked_181 : decode cX3_worked 181 = .ok (.ifCond .ne 7, 3) := by decide +kernel
theorem dX3_worked_184 : decode cX3_worked 184 = .ok (.lconst 1, 1) := by decide +kernel
theorem dX3_worked_185 : decode cX3_worked 185 = .ok (.goto 4, 3) := by decide +kernel
theorem dX3_worked_188 : decode cX3_worked 188 = .ok (.lconst 0, 1) := by decide +kernel
theorem dX3_worked_189 : decode cX3_worked 189 = .ok (.lreturn, 1) := by decide +kernel
theorem dX3_worked_190 : decode cX3_worked 190 = .ok (.lload_n 1, 1) := by decide +kernel
theorem dX3_worked_191 : decode cX3_worked 191 = .ok (.lload_n 3, 1) := by decide +kernel
theorem dX3_worked_192 : decode cX3_worked 192 = .ok (.lcmp, 1) := by decide +kernel
theorem dX3_worked_193 : decode cX3_worked 193 = .ok (.ifCond .ge 7, 3) := by decide +kernel
theorem dX3_worked_196 : decode cX3_worked 196 = .ok (.lconst 1, 1) := by decide +kernel
theorem dX3_worked_197 : decode cX3_worked 197 = .ok (.goto 4, 3) := by decide +kernel
theorem dX3_worked_200 : decode cX3_worked 200 = .ok (.lconst 0, 1) := by decide +kernel
theorem dX3_worked_201 : decode cX3_worked 201 = .ok (.lreturn, 1) := by decide +kernel
theorem dX3_worked_202 : decode cX3_worked 202 = .ok (.lload_n 1, 1) := by decide +kernel
theorem dX3_worked_203 : decode cX3_worked 203 = .ok (.lload_n 3, 1) := by decide +kernel
theorem dX3_worked_204 : decode cX3_worked 204 = .ok (.lcmp, 1) := by decide +kernel
theorem dX3_worked_205 : decode cX3_worked 205 = .ok (.ifCond .le 7, 3) := by decide +kernel
theorem dX3_worked_208 : decode cX3_worked 208 = .ok (.lconst 1, 1) := by decide +kernel
theorem dX3_worked_209 : decode cX3_worked 209 = .ok (.goto 4, 3) := by decide +kernel
theorem dX3_worked_212 : decode cX3_worked 212 = .ok (.lconst 0, 1) := by decide +kernel
theorem dX3_worked_213 : decode cX3_worked 213 = .ok (.lreturn, 1) := by decide +kernel
theorem dX3_worked_214 : decode cX3_worked 214 = .ok (.lload_n 1, 1) := by decide +kernel
theorem dX3_worked_215 : decode cX3_worked 215 = .ok (.lload_n 3, 1) := by decide +kernel
theorem dX3_worked_216 : decode cX3_worked 216 = .ok (.land, 1) := by decide +kernel
theorem dX3_worked_217 : decode cX3_worked 217 = .ok (.lreturn, 1) := by decide +kernel
theorem dX3_worked_218 : decode cX3_worked 218 = .ok (.lload_n 1, 1) := by decide +kernel
theorem dX3_worked_219 : decode cX3_worked 219 = .ok (.lload_n 3, 1) := by decide +kernel
theorem dX3_worked_220 : decode cX3_worked 220 = .ok (.lor, 1) := by decide +kernel
theorem dX3_worked_221 : decode cX3_worked 221 = .ok (.lreturn, 1) := by decide +kernel
theorem dX4_init_0 : decode cX4_init 0 = .ok (.aload_n 0, 1) := by decide +kernel
theorem dX4_init_1 : decode cX4_init 1 = .ok (.invokespecial 3, 3) := by decide +kernel
theorem dX4_init_4 : decode cX4_init 4 = .ok (.aload_n 0, 1) := by decide +kernel
theorem dX4_init_5 : decode cX4_init 5 = .ok (.bipush 6, 2) := by decide +kernel
theorem dX4_init_7 : decode cX4_init 7 = .ok (.newarray .int, 2) := by decide +kernel
theorem dX4_init_9 : decode cX4_init 9 = .ok (.putfield 9, 3) := by decide +kernel
theorem dX4_init_12 : decode cX4_init 12 = .ok (.aload_n 0, 1) := by decide +kernel
theorem dX4_init_13 : decode cX4_init 13 = .ok (.aload_n 1, 1) := by decide +kernel
theorem dX4_init_14 : decode cX4_init 14 = .ok (.putfield 15, 3) := by decide +kernel
theorem dX4_init_17 : decode cX4_init 17 = .ok (.iconst (-1), 1) := by decide +kernel
theorem dX4_init_18 : decode cX4_init 18 = .ok (.istore_n 2, 1) := by decide +kernel
theorem dX4_init_19 : decode cX4_init 19 = .ok (.iconst 0, 1) := by decide +kernel
theorem dX4_init_20 : decode cX4_init 20 = .ok (.istore_n 3, 1) := by decide +kernel
theorem dX4_init_21 : decode cX4_init 21 = .ok (.aload_n 1, 1) := by decide +kernel
theorem dX4_init_22 : decode cX4_init 22 = .ok (.astore 4, 2) := by decide +kernel
theorem dX4_init_24 : decode cX4_init 24 = .ok (.aload 4, 2) := by decide +kernel
theorem dX4_init_26 : decode cX4_init 26 = .ok (.arraylength, 1) := by decide +kernel
theorem dX4_init_27 : decode cX4_init 27 = .ok (.istore 5, 2) := by decide +kernel
theorem dX4_init_29 : decode cX4_init 29 = .ok (.iconst 0, 1) := by decide +kernel
theorem dX4_init_30 : decode cX4_init 30 = .ok (.istore 6, 2) := by decide +kernel
theorem dX4_init_32 : decode cX4_init 32 = .ok (.iload 6, 2) := by decide +kernel
theorem dX4_init_34 : decode cX4_init 34 = .ok (.iload 5, 2) := by decide +kernel
theorem dX4_init_36 : decode cX4_init 36 = .ok (.if_icmp .ge 55, 3) := by decide +kernel
theorem dX4_init_39 : decode cX4_init 39 = .ok (.aload 4, 2) := by decide +kernel
theorem dX4_init_41 : decode cX4_init 41 = .ok (.iload 6, 2) := by decide +kernel
theorem dX4_init_43 : decode cX4_init 43 = .ok (.iaload, 1) := by decide +kernel
theorem dX4_init_44 : decode cX4_init 44 = .ok (.istore 7, 2) := by decide +kernel
theorem dX4_init_46 : decode cX4_init 46 = .ok (.iload 7, 2) := by decide +kernel
theorem dX4_init_48 : decode cX4_init 48 = .ok (.ifCond .lt 34, 3) := by decide +kernel
theorem dX4_init_51 : decode cX4_init 51 = .ok (.iload 7, 2) := by decide +kernel
theorem dX4_init_53 : decode cX4_init 53 = .ok (.aload_n 0, 1) := by decide +kernel
theorem dX4_init_54 : decode cX4_init 54 = .ok (.getfield 9, 3) := by decide +kernel
theorem dX4_init_57 : decode cX4_init 57 = .ok (.arraylength, 1) := by decide +kernel
theorem dX4_init_58 : decode cX4_init 58 = .ok (.if_icmp .ge 24, 3) := by decide +kernel
theorem dX4_init_61 : decode cX4_init 61 = .ok (.aload_n 0, 1) := by decide +kernel
theorem dX4_init_62 : decode cX4_init 62 = .ok (.getfield 9, 3) := by decide +kernel
theorem dX4_init_65 : decode cX4_init 65 = .ok (.iload 7, 2) := by decide +kernel
theorem dX4_init_67 : decode cX4_init 67 = .ok (.dup2, 1) := by decide +kernel
theorem dX4_init_68 : decode cX4_init 68 = .ok (.iaload, 1) := by decide +kernel
theorem dX4_init_69 : decode cX4_init 69 = .ok (.iconst 1, 1) := by decide +kernel
theorem dX4_init_70 : decode cX4_init 70 = .ok (.iadd, 1) := by decide +kernel
theorem dX4_init_71 : decode cX4_init 71 = .ok (.iastore, 1) := by decide +kernel
theorem dX4_init_72 : decode cX4_init 72 = .ok (.iload_n 2, 1) := by decide +kernel
theorem dX4_init_73 : decode cX4_init 73 = .ok (.iload 7, 2) := by decide +kernel
theorem dX4_init_75 : decode cX4_init 75 = .ok (.invokestatic 18, 3) := by decide +kernel
theorem dX4_init_78 : decode cX4_init 78 = .ok (.istore_n 2, 1) := by decide +kernel
theorem dX4_init_79 : decode cX4_init 79 = .ok (.goto 6, 3) := by decide +kernel
theorem dX4_init_82 : decode cX4_init 82 = .ok (.iinc 3 1, 3) := by decide +kernel
theorem dX4_init_85 : decode cX4_init 85 = .ok (.iinc 6 1, 3) := by decide +kernel
theorem dX4_init_88 : decode cX4_init 88 = .ok (.goto (-56), 3) := by decide +kernel
theorem dX4_init_91 : decode cX4_init 91 = .ok (.aload_n 0, 1) := by decide +kernel
theorem dX4_init_92 : decode cX4_init 92 = .ok (.iload_n 2, 1) := by decide +kernel
theorem dX4_init_93 : decode cX4_init 93 = .ok (.iconst 1, 1) := by decide +kernel
theorem dX4_init_94 : decode cX4_init 94 = .ok (.iadd, 1) := by decide +kernel
theorem dX4_init_95 : decode cX4_init 95 = .ok (.putfield 24, 3) := by decide +kernel
theorem dX4_init_98 : decode cX4_init 98 = .ok (.aload_n 0, 1) := by decide +kernel
theorem dX4_init_99 : decode cX4_init 99 = .ok (.iload_n 3, 1) := by decide +kernel
theorem dX4_init_100 : decode cX4_init 100 = .ok (.putfield 28, 3) := by decide +kernel
theorem dX4_init_103 : decode cX4_init 103 = .ok (.return_, 1) := by decide +kernel
theorem dX4_steepOf_0 : decode cX4_steepOf 0 = .ok (.iload_n 1, 1) := by decide +kernel
theorem dX4_steepOf_1 : decode cX4_steepOf 1 = .ok (.ifCond .lt 12, 3) := by decide +kernel
theorem dX4_steepOf_4 : decode cX4_steepOf 4 = .ok (.iload_n 1, 1) := by decide +kernel
theorem dX4_steepOf_5 : decode cX4_steepOf 5 = .ok (.aload_n 0, 1) := by decide +kernel
theorem dX4_steepOf_6 : decode cX4_steepOf 6 = .ok (.getfield 9, 3) := by decide +kernel
theorem dX4_steepOf_9 : decode cX4_steepOf 9 = .ok (.arraylength, 1) := by decide +kernel
theorem dX4_steepOf_10 : decode cX4_steepOf 10 = .ok (.if_icmp .lt 7, 3) := by decide +kernel
theorem dX4_steepOf_13 : decode cX4_steepOf 13 = .ok (.iconst 0, 1) := by decide +kernel
theorem dX4_steepOf_14 : decode cX4_steepOf 14 = .ok (.goto 9, 3) := by decide +kernel
theorem dX4_steepOf_17 : decode cX4_steepOf 17 = .ok (.aload_n 0, 1) := by decide +kernel
theorem dX4_steepOf_18 : decode cX4_steepOf 18 = .ok (.getfield 9, 3) := by decide +kernel
theorem dX4_steepOf_21 : decode cX4_steepOf 21 = .ok (.iload_n 1, 1) := by decide +kernel
theorem dX4_steepOf_22 : decode cX4_steepOf 22 = .ok (.iaload, 1) := by decide +kernel
theorem dX4_steepOf_23 : decode cX4_steepOf 23 = .ok (.ireturn, 1) := by decide +kernel
theorem dX4_mostSteep_0 : decode cX4_mostSteep 0 = .ok (.iconst 0, 1) := by decide +kernel
theorem dX4_mostSteep_1 : decode cX4_mostSteep 1 = .ok (.istore_n 1, 1) := by decide +kernel
theorem dX4_mostSteep_2 : decode cX4_mostSteep 2 = .ok (.aload_n 0, 1) := by decide +kernel
theorem dX4_mostSteep_3 : decode cX4_mostSteep 3 = .ok (.getfield 9, 3) := by decide +kernel
theorem dX4_mostSteep_6 : decode cX4_mostSteep 6 = .ok (.astore_n 2, 1) := by decide +kernel
theorem dX4_mostSteep_7 : decode cX4_mostSteep 7 = .ok (.aload_n 2, 1) := by decide +kernel
theorem dX4_mostSteep_8 : decode cX4_mostSteep 8 = .ok (.arraylength, 1) := by decide +kernel
theorem dX4_mostSteep_9 : decode cX4_mostSteep 9 = .ok (.istore_n 3, 1) := by decide +kernel
theorem dX4_mostSteep_10 : decode cX4_mostSteep 10 = .ok (.iconst 0, 1) := by decide +kernel
theorem dX4_mostSteep_11 : decode cX4_mostSteep 11 = .ok (.istore 4, 2) := by decide +kernel
theorem dX4_mostSteep_13 : decode cX4_mostSteep 13 = .ok (.iload 4, 2) := by decide +kernel
theorem dX4_mostSteep_15 : decode cX4_mostSteep 15 = .ok (.iload_n 3, 1) := by decide +kernel
theorem dX4_mostSteep_16 : decode cX4_mostSteep 16 = .ok (.if_icmp .ge 22, 3) := by decide +kernel
theorem dX4_mostSteep_19 : decode cX4_mostSteep 19 = .ok (.aload_n 2, 1) := by decide +kernel
theorem dX4_mostSteep_20 : decode cX4_mostSteep 20 = .ok (.iload 4, 2) := by decide +kernel
theorem dX4_mostSteep_22 : decode cX4_mostSteep 22 = .ok (.iaload, 1) := by decide +kernel
theorem dX4_mostSteep_23 : decode cX4_mostSteep 23 = .ok (.istore 5, 2) := by decide +kernel
theorem dX4_mostSteep_25 : decode cX4_mostSteep 25 = .ok (.iload_n 1, 1) := by decide +kernel
theorem dX4_mostSteep_26 : decode cX4_mostSteep 26 = .ok (.iload 5, 2) := by decide +kernel
theorem dX4_mostSteep_28 : decode cX4_mostSteep 28 = .ok (.invokestatic 18, 3) := by decide +kernel
theorem dX4_mostSteep_31 : decode cX4_mostSteep 31 = .ok (.istore_n 1, 1) := by decide +kernel
theorem dX4_mostSteep_32 : decode cX4_mostSteep 32 = .ok (.iinc 4 1, 3) := by decide +kernel
theorem dX4_mostSteep_35 : decode cX4_mostSteep 35 = .ok (.goto (-22), 3) := by decide +kernel
theorem dX4_mostSteep_38 : decode cX4_mostSteep 38 = .ok (.iload_n 1, 1) := by decide +kernel
theorem dX4_mostSteep_39 : decode cX4_mostSteep 39 = .ok (.ireturn, 1) := by decide +kernel
theorem dX5_init_0 : decode cX5_init 0 = .ok (.aload_n 0, 1) := by decide +kernel
theorem dX5_init_1 : decode cX5_init 1 = .ok (.invokespecial 3, 3) := by decide +kernel
theorem dX5_init_4 : decode cX5_init 4 = .ok (.aload_n 0, 1) := by decide +kernel
theorem dX5_init_5 : decode cX5_init 5 = .ok (.aload_n 1, 1) := by decide +kernel
theorem dX5_init_6 : decode cX5_init 6 = .ok (.putfield 9, 3) := by decide +kernel
theorem dX5_init_9 : decode cX5_init 9 = .ok (.return_, 1) := by decide +kernel
theorem dX5_read_0 : decode cX5_read 0 = .ok (.aload_n 0, 1) := by decide +kernel
theorem dX5_read_1 : decode cX5_read 1 = .ok (.getfield 9, 3) := by decide +kernel
theorem dX5_read_4 : decode cX5_read 4 = .ok (.invokevirtual 15, 3) := by decide +kernel
theorem dX5_read_7 : decode cX5_read 7 = .ok (.aload_n 0, 1) := by decide +kernel
theorem dX5_read_8 : decode cX5_read 8 = .ok (.iconst 0, 1) := by decide +kernel
theorem dX5_read_9 : decode cX5_read 9 = .ok (.invokevirtual 20, 3) := by decide +kernel
theorem dX5_read_12 : decode cX5_read 12 = .ok (.ifCond .eq 17, 3) := by decide +kernel
theorem dX5_read_15 : decode cX5_read 15 = .ok (.aload_n 0, 1) := by decide +kernel
theorem dX5_read_16 : decode cX5_read 16 = .ok (.getfield 9, 3) := by decide +kernel
theorem dX5_read_19 : decode cX5_read 19 = .ok (.invokevirtual 24, 3) := by decide +kernel
theorem dX5_read_22 : decode cX5_read 22 = .ok (.ifCond .eq 7, 3) := by decide +kernel
theorem dX5_read_25 : decode cX5_read 25 = .ok (.iconst (-1), 1) := by decide +kernel
theorem dX5_read_26 : decode cX5_read 26 = .ok (.goto 10, 3) := by decide +kernel
theorem dX5_read_29 : decode cX5_read 29 = .ok (.aload_n 0, 1) := by decide +kernel
theorem dX5_read_30 : decode cX5_read 30 = .ok (.getfield 9, 3) := by decide +kernel
theorem dX5_read_33 : decode cX5_read 33 = .ok (.getfield 28, 3) := by decide +kernel
theorem dX5_read_36 : decode cX5_read 36 = .ok (.ireturn, 1) := by decide +kernel
theorem dX5_ands_0 : decode cX5_ands 0 = .ok (.aload_n 0, 1) := by decide +kernel
theorem dX5_ands_1 : decode cX5_ands 1 = .ok (.iload_n 1, 1) := by decide +kernel
theorem dX5_ands_2 : decode cX5_ands 2 = .ok (.invokevirtual 32, 3) := by decide +kernel
theorem dX5_ands_5 : decode cX5_ands 5 = .ok (.ifCond .ne 5, 3) := by decide +kernel
theorem dX5_ands_8 : decode cX5_ands 8 = .ok (.iconst 0, 1) := by decide +kernel
theorem dX5_ands_9 : decode cX5_ands 9 = .ok (.ireturn, 1) := by decide +kernel
theorem dX5_ands_10 : decode cX5_ands 10 = .ok (.sipush 200, 3) := by decide +kernel
theorem dX5_ands_13 : decode cX5_ands 13 = .ok (.istore_n 2, 1) := by decide +kernel
theorem dX5_ands_14 : decode cX5_ands 14 = .ok (.iload_n 2, 1) := by decide +kernel
theorem dX5_ands_15 : decode cX5_ands 15 = .ok (.ifCond .le 40, 3) := by decide +kernel
theorem dX5_ands_18 : decode cX5_ands 18 = .ok (.aload_n 0, 1) := by decide +kernel
theorem dX5_ands_19 : decode cX5_ands 19 = .ok (.getfield 9, 3) := by decide +kernel
theorem dX5_ands_22 : decode cX5_ands 22 = .ok (.bipush 124, 2) := by decide +kernel
theorem dX5_ands_24 : decode cX5_ands 24 = .ok (.invokevirtual 35, 3) := by decide +kernel
theorem dX5_ands_27 : decode cX5_ands 27 = .ok (.ifCond .eq 28, 3) := by decide +kernel
theorem dX5_ands_30 : decode cX5_ands 30 = .ok (.aload_n 0, 1) := by decide +kernel
theorem dX5_ands_31 : decode cX5_ands 31 = .ok (.iload_n 1, 1) := by decide +kernel
theorem dX5_ands_32 : decode cX5_ands 32 = .ok (.invokevirtual 32, 3) := by decide +kernel
theorem dX5_ands_35 : decode cX5_ands 35 = .ok (.ifCond .ne 5, 3) := by decide +kernel
theorem dX5_ands_38 : decode cX5_ands 38 = .ok (.iconst 0, 1) := by decide +kernel
theorem dX5_ands_39 : decode cX5_ands 39 = .ok (.ireturn, 1) := by decide +kernel
theorem dX5_ands_40 : decode cX5_ands 40 = .ok (.aload_n 0, 1) := by decide +kernel
theorem dX5_ands_41 : decode cX5_ands 41 = .ok (.getfield 9, 3) := by decide +kernel
theorem dX5_ands_44 : decode cX5_ands 44 = .ok (.bipush 8, 2) := by decide +kernel
theorem dX5_ands_46 : decode cX5_ands 46 = .ok (.invokevirtual 40, 3) := by decide +kernel
theorem dX5_ands_49 : decode cX5_ands 49 = .ok (.iinc 2 (-1), 3) := by decide +kernel
theorem dX5_ands_52 : decode cX5_ands 52 = .ok (.goto (-38), 3) := by decide +kernel
theorem dX5_ands_55 : decode cX5_ands 55 = .ok (.iconst 1, 1) := by decide +kernel
theorem dX5_ands_56 : decode cX5_ands 56 = .ok (.ireturn, 1) := by decide +kernel
theorem dX5_units_0 : decode cX5_units 0 = .ok (.aload_n 0, 1) := by decide +kernel
theorem dX5_units_1 : decode cX5_units 1 = .ok (.iload_n 1, 1) := by decide +kernel
theorem dX5_units_2 : decode cX5_units 2 = .ok (.invokevirtual 44, 3) := by decide +kernel
theorem dX5_units_5 : decode cX5_units 5 = .ok (.ifCond .ne 5, 3) := by decide +kernel
theorem dX5_units_8 : decode cX5_units 8 = .ok (.iconst 0, 1) := by decide +kernel
theorem dX5_units_9 : decode cX5_units 9 = .ok (.ireturn, 1) := by decide +kernel
theorem dX5_units_10 : decode cX5_units 10 = .ok (.sipush 200, 3) := by decide +kernel
theorem dX5_units_13 : decode cX5_units 13 = .ok (.istore_n 2, 1) := by decide +kernel
theorem dX5_units_14 : decode cX5_units 14 = .ok (.iload_n 2, 1) := by decide +kernel
theorem dX5_units_15 : decode cX5_units 15 = .ok (.ifCond .le 40, 3) := by decide +kernel
theorem dX5_units_18 : decode cX5_units 18 = .ok (.aload_n 0, 1) := by decide +kernel
theorem dX5_units_19 : decode cX5_units 19 = .ok (.getfield 9, 3) := by decide +kernel
theorem dX5_units_22 : decode cX5_units 22 = .ok (.bipush 38, 2) := by decide +kernel
theorem dX5_units_24 : decode cX5_units 24 = .ok (.invokevirtual 35, 3) := by decide +kernel
theorem dX5_units_27 : decode cX5_units 27 = .ok (.ifCond .eq 28, 3) := by decide +kernel
theorem dX5_units_30 : decode cX5_units 30 = .ok (.aload_n 0, 1) := by decide +kernel
theorem dX5_units_31 : decode cX5_units 31 = .ok (.iload_n 1, 1) := by decide +kernel
theorem dX5_units_32 : decode cX5_units 32 = .ok (.invokevirtual 44, 3) := by decide +kernel
theorem dX5_units_35 : decode cX5_units 35 = .ok (.ifCond .ne 5, 3) := by decide +kernel
theorem dX5_units_38 : decode cX5_units 38 = .ok (.iconst 0, 1) := by decide +kernel
theorem dX5_units_39 : decode cX5_units 39 = .ok (.ireturn, 1) := by decide +kernel
theorem dX5_units_40 : decode cX5_units 40 = .ok (.aload_n 0, 1) := by decide +kernel
theorem dX5_units_41 : decode cX5_units 41 = .ok (.getfield 9, 3) := by decide +kernel
theorem dX5_units_44 : decode cX5_units 44 = .ok (.bipush 7, 2) := by decide +kernel
theorem dX5_units_46 : decode cX5_units 46 = .ok (.invokevirtual 40, 3) := by decide +kernel
theorem dX5_units_49 : decode cX5_units 49 = .ok (.iinc 2 (-1), 3) := by decide +kernel
theorem dX5_units_52 : decode cX5_units 52 = .ok (.goto (-38), 3) := by decide +kernel
theorem dX5_units_55 : decode cX5_units 55 = .ok (.iconst 1, 1) := by decide +kernel
theorem dX5_units_56 : decode cX5_units 56 = .ok (.ireturn, 1) := by decide +kernel
theorem dX5_unit_0 : decode cX5_unit 0 = .ok (.aload_n 0, 1) := by decide +kernel
theorem dX5_unit_1 : decode cX5_unit 1 = .ok (.getfield 9, 3) := by decide +kernel
theorem dX5_unit_4 : decode cX5_unit 4 = .ok (.invokevirtual 47, 3) := by decide +kernel
theorem dX5_unit_7 : decode cX5_unit 7 = .ok (.istore_n 2, 1) := by decide +kernel
theorem dX5_unit_8 : decode cX5_unit 8 = .ok (.iload_n 2, 1) := by decide +kernel
theorem dX5_unit_9 : decode cX5_unit 9 = .ok (.bipush 33, 2) := by decide +kernel
theorem dX5_unit_11 : decode cX5_unit 11 = .ok (.if_icmp .eq 9, 3) := by decide +kernel
theorem dX5_unit_14 : decode cX5_unit 14 = .ok (.iload_n 2, 1) := by decide +kernel
theorem dX5_unit_15 : decode cX5_unit 15 = .ok (.bipush 40, 2) := by decide +kernel
theorem dX5_unit_17 : decode cX5_unit 17 = .ok (.if_icmp .ne 28, 3) := by decide +kernel
theorem dX5_unit_20 : decode cX5_unit 20 = .ok (.iload_n 1, 1) := by decide +kernel
theorem dX5_unit_21 : decode cX5_unit 21 = .ok (.bipush 8, 2) := by decide +kernel
theorem dX5_unit_23 : decode cX5_unit 23 = .ok (.if_icmp .ge 14, 3) := by decide +kernel
theorem dX5_unit_26 : decode cX5_unit 26 = .ok (.aload_n 0, 1) := by decide +kernel
theorem dX5_unit_27 : decode cX5_unit 27 = .ok (.iload_n 2, 1) := by decide +kernel
theorem dX5_unit_28 : decode cX5_unit 28 = .ok (.iload_n 1, 1) := by decide +kernel
theorem dX5_unit_29 : decode cX5_unit 29 = .ok (.iconst 1, 1) := by decide +kernel
theorem dX5_unit_30 : decode cX5_unit 30 = .ok (.iadd, 1) := by decide +kernel
theorem dX5_unit_31 : decode cX5_unit 31 = .ok (.invokevirtual 51, 3) := by decide +kernel
theorem dX5_unit_34 : decode cX5_unit 34 = .ok (.goto 10, 3) := by decide +kernel
theorem dX5_unit_37 : decode cX5_unit 37 = .ok (.aload_n 0, 1) := by decide +kernel
theorem dX5_unit_38 : decode cX5_unit 38 = .ok (.getfield 9, 3) := by decide +kernel
theorem dX5_unit_41 : decode cX5_unit 41 = .ok (.invokevirtual 55, 3) := by decide +kernel
theorem dX5_unit_44 : decode cX5_unit 44 = .ok (.ireturn, 1) := by decide +kernel
theorem dX5_unit_45 : decode cX5_unit 45 = .ok (.iload_n 2, 1) := by decide +kernel
theorem dX5_unit_46 : decode cX5_unit 46 = .ok (.bipush 97, 2) := by decide +kernel
theorem dX5_unit_48 : decode cX5_unit 48 = .ok (.if_icmp .lt 9, 3) := by decide +kernel
theorem dX5_unit_51 : decode cX5_unit 51 = .ok (.iload_n 2, 1) := by decide +kernel
theorem dX5_unit_52 : decode cX5_unit 52 = .ok (.bipush 103, 2) := by decide +kernel
theorem dX5_unit_54 : decode cX5_unit 54 = .ok (.if_icmp .lt 11, 3) := by decide +kernel
theorem dX5_unit_57 : decode cX5_unit 57 = .ok (.aload_n 0, 1) := by decide +kernel
theorem dX5_unit_58 : decode cX5_unit 58 = .ok (.getfield 9, 3) := by decide +kernel
theorem dX5_unit_61 : decode cX5_unit 61 = .ok (.invokevirtual 55, 3) := by decide +kernel
theorem dX5_unit_64 : decode cX5_unit 64 = .ok (.ireturn, 1) := by decide +kernel
theorem dX5_unit_65 : decode cX5_unit 65 = .ok (.aload_n 0, 1) := by decide +kernel
theorem dX5_unit_66 : decode cX5_unit 66 = .ok (.getfield 9, 3) := by decide +kernel
theorem dX5_unit_69 : decode cX5_unit 69 = .ok (.invokevirtual 58, 3) := by decide +kernel
theorem dX5_unit_72 : decode cX5_unit 72 = .ok (.aload_n 0, 1) := by decide +kernel
theorem dX5_unit_73 : decode cX5_unit 73 = .ok (.getfield 9, 3) := by decide +kernel
theorem dX5_unit_76 : decode cX5_unit 76 = .ok (.iload_n 2, 1) := by decide +kernel
theorem dX5_unit_77 : decode cX5_unit 77 = .ok (.bipush 97, 2) := by decide +kernel
theorem dX5_unit_79 : decode cX5_unit 79 = .ok (.isub, 1) := by decide +kernel
theorem dX5_unit_80 : decode cX5_unit 80 = .ok (.invokevirtual 40, 3) := by decide +kernel
theorem dX5_unit_83 : decode cX5_unit 83 = .ok (.iconst 1, 1) := by decide +kernel
theorem dX5_unit_84 : decode cX5_unit 84 = .ok (.ireturn, 1) := by decide +kernel
theorem dX5_inner_0 : decode cX5_inner 0 = .ok (.aload_n 0, 1) := by decide +kernel
theorem dX5_inner_1 : decode cX5_inner 1 = .ok (.getfield 9, 3) := by decide +kernel
theorem dX5_inner_4 : decode cX5_inner 4 = .ok (.invokevirtual 58, 3) := by decide +kernel
theorem dX5_inner_7 : decode cX5_inner 7 = .ok (.iload_n 1, 1) := by decide +kernel
theorem dX5_inner_8 : decode cX5_inner 8 = .ok (.bipush 40, 2) := by decide +kernel
theorem dX5_inner_10 : decode cX5_inner 10 = .ok (.if_icmp .ne 29, 3) := by decide +kernel
theorem dX5_inner_13 : decode cX5_inner 13 = .ok (.aload_n 0, 1) := by decide +kernel
theorem dX5_inner_14 : decode cX5_inner 14 = .ok (.iload_n 2, 1) := by decide +kernel
theorem dX5_inner_15 : decode cX5_inner 15 = .ok (.invokevirtual 20, 3) := by decide +kernel
theorem dX5_inner_18 : decode cX5_inner 18 = .ok (.ifCond .eq 19, 3) := by decide +kernel
theorem dX5_inner_21 : decode cX5_inner 21 = .ok (.aload_n 0, 1) := by decide +kernel
theorem dX5_inner_22 : decode cX5_inner 22 = .ok (.getfield 9, 3) := by decide +kernel
theorem dX5_inner_25 : decode cX5_inner 25 = .ok (.bipush 41, 2) := by decide +kernel
theorem dX5_inner_27 : decode cX5_inner 27 = .ok (.invokevirtual 61, 3) := by decide +kernel
theorem dX5_inner_30 : decode cX5_inner 30 = .ok (.ifCond .eq 7, 3) := by decide +kernel
theorem dX5_inner_33 : decode cX5_inner 33 = .ok (.iconst 1, 1) := by decide +kernel
theorem dX5_inner_34 : decode cX5_inner 34 = .ok (.goto 4, 3) := by decide +kernel
theorem dX5_inner_37 : decode cX5_inner 37 = .ok (.iconst 0, 1) := by decide +kernel
theorem dX5_inner_38 : decode cX5_inner 38 = .ok (.ireturn, 1) := by decide +kernel
theorem dX5_inner_39 : decode cX5_inner 39 = .ok (.aload_n 0, 1) := by decide +kernel
theorem dX5_inner_40 : decode cX5_inner 40 = .ok (.iload_n 2, 1) := by decide +kernel
theorem dX5_inner_41 : decode cX5_inner 41 = .ok (.invokevirtual 44, 3) := by decide +kernel
theorem dX5_inner_44 : decode cX5_inner 44 = .ok (.ifCond .ne 5, 3) := by decide +kernel
theorem dX5_inner_47 : decode cX5_inner 47 = .ok (.iconst 0, 1) := by decide +kernel
theorem dX5_inner_48 : decode cX5_inner 48 = .ok (.ireturn, 1) := by decide +kernel
theorem dX5_inner_49 : decode cX5_inner 49 = .ok (.aload_n 0, 1) := by decide +kernel
theorem dX5_inner_50 : decode cX5_inner 50 = .ok (.getfield 9, 3) := by decide +kernel
theorem dX5_inner_53 : decode cX5_inner 53 = .ok (.bipush 6, 2) := by decide +kernel
theorem dX5_inner_55 : decode cX5_inner 55 = .ok (.invokevirtual 40, 3) := by decide +kernel
theorem dX5_inner_58 : decode cX5_inner 58 = .ok (.iconst 1, 1) := by decide +kernel
theorem dX5_inner_59 : decode cX5_inner 59 = .ok (.ireturn, 1) := by decide +kernel
theorem dX6_mostTales_0 : decode cX6_mostTales 0 = .ok (.iconst 0, 1) := by decide +kernel
theorem dX6_mostTales_1 : decode cX6_mostTales 1 = .ok (.istore_n 2, 1) := by decide +kernel
theorem dX6_mostTales_2 : decode cX6_mostTales 2 = .ok (.iconst 0, 1) := by decide +kernel
theorem dX6_mostTales_3 : decode cX6_mostTales 3 = .ok (.istore_n 3, 1) := by decide +kernel
theorem dX6_mostTales_4 : decode cX6_mostTales 4 = .ok (.iload_n 3, 1) := by decide +kernel
theorem dX6_mostTales_5 : decode cX6_mostTales 5 = .ok (.bipush 7, 2) := by decide +kernel
theorem dX6_mostTales_7 : decode cX6_mostTales 7 = .ok (.if_icmp .gt 21, 3) := by decide +kernel
theorem dX6_mostTales_10 : decode cX6_mostTales 10 = .ok (.iload_n 2, 1) := by decide +kernel
theorem dX6_mostTales_11 : decode cX6_mostTales 11 = .ok (.lload_n 0, 1) := by decide +kernel
theorem dX6_mostTales_12 : decode cX6_mostTales 12 = .ok (.iload_n 3, 1) := by decide +kernel
theorem dX6_mostTales_13 : decode cX6_mostTales 13 = .ok (.bipush 7, 2) := by decide +kernel
theorem dX6_mostTales_15 : decode cX6_mostTales 15 = .ok (.invokestatic 11, 3) := by decide +kernel
theorem dX6_mostTales_18 : decode cX6_mostTales 18 = .ok (.invokestatic 15, 3) := by decide +kernel
theorem dX6_mostTales_21 : decode cX6_mostTales 21 = .ok (.istore_n 2, 1) := by decide +kernel
theorem dX6_mostTales_22 : decode cX6_mostTales 22 = .ok (.iinc 3 1, 3) := by decide +kernel
theorem dX6_mostTales_25 : decode cX6_mostTales 25 = .ok (.goto (-21), 3) := by decide +kernel
theorem dX6_mostTales_28 : decode cX6_mostTales 28 = .ok (.iload_n 2, 1) := by decide +kernel
theorem dX6_mostTales_29 : decode cX6_mostTales 29 = .ok (.ireturn, 1) := by decide +kernel
theorem dX6_mostByWord_0 : decode cX6_mostByWord 0 = .ok (.iconst 0, 1) := by decide +kernel
theorem dX6_mostByWord_1 : decode cX6_mostByWord 1 = .ok (.istore_n 2, 1) := by decide +kernel
theorem dX6_mostByWord_2 : decode cX6_mostByWord 2 = .ok (.iconst 0, 1) := by decide +kernel
theorem dX6_mostByWord_3 : decode cX6_mostByWord 3 = .ok (.istore_n 3, 1) := by decide +kernel
theorem dX6_mostByWord_4 : decode cX6_mostByWord 4 = .ok (.iload_n 3, 1) := by decide +kernel
theorem dX6_mostByWord_5 : decode cX6_mostByWord 5 = .ok (.bipush 7, 2) := by decide +kernel
theorem dX6_mostByWord_7 : decode cX6_mostByWord 7 = .ok (.if_icmp .gt 52, 3) := by decide +kernel
theorem dX6_mostByWord_10 : decode cX6_mostByWord 10 = .ok (.iconst 0, 1) := by decide +kernel
theorem dX6_mostByWord_11 : decode cX6_mostByWord 11 = .ok (.istore 4, 2) := by decide +kernel
theorem dX6_mostByWord_13 : decode cX6_mostByWord 13 = .ok (.iload 4, 2) := by decide +kernel
theorem dX6_mostByWord_15 : decode cX6_mostByWord 15 = .ok (.bipush 7, 2) := by decide +kernel
theorem dX6_mostByWord_17 : decode cX6_mostByWord 17 = .ok (.if_icmp .gt 36, 3) := by decide +kernel
theorem dX6_mostByWord_20 : decode cX6_mostByWord 20 = .ok (.lload_n 0, 1) := by decide +kernel
theorem dX6_mostByWord_21 : decode cX6_mostByWord 21 = .ok (.iload_n 3, 1) := by decide +kernel
theorem dX6_mostByWord_22 : decode cX6_mostByWord 22 = .ok (.iload 4, 2) := by decide +kernel
theorem dX6_mostByWord_24 : decode cX6_mostByWord 24 = .ok (.invokestatic 11, 3) := by decide +kernel
theorem dX6_mostByWord_27 : decode cX6_mostByWord 27 = .ok (.lload_n 0, 1) := by decide +kernel
theorem dX6_mostByWord_28 : decode cX6_mostByWord 28 = .ok (.iload_n 3, 1) := by decide +kernel
theorem dX6_mostByWord_29 : decode cX6_mostByWord 29 = .ok (.bipush 7, 2) := by decide +kernel
theorem dX6_mostByWord_31 : decode cX6_mostByWord 31 = .ok (.iload 4, 2) := by decide +kernel
theorem dX6_mostByWord_33 : decode cX6_mostByWord 33 = .ok (.isub, 1) := by decide +kernel
theorem dX6_mostByWord_34 : decode cX6_mostByWord 34 = .ok (.invokestatic 11, 3) := by decide +kernel
theorem dX6_mostByWord_37 : decode cX6_mostByWord 37 = .ok (.iadd, 1) := by decide +kernel
theorem dX6_mostByWord_38 : decode cX6_mostByWord 38 = .ok (.istore 5, 2) := by decide +kernel
theorem dX6_mostByWord_40 : decode cX6_mostByWord 40 = .ok (.iload_n 2, 1) := by decide +kernel
theorem dX6_mostByWord_41 : decode cX6_mostByWord 41 = .ok (.iload 5, 2) := by decide +kernel
theorem dX6_mostByWord_43 : decode cX6_mostByWord 43 = .ok (.invokestatic 15, 3) := by decide +kernel
theorem dX6_mostByWord_46 : decode cX6_mostByWord 46 = .ok (.istore_n 2, 1) := by decide +kernel
theorem dX6_mostByWord_47 : decode cX6_mostByWord 47 = .ok (.iinc 4 1, 3) := by decide +kernel
theorem dX6_mostByWord_50 : decode cX6_mostByWord 50 = .ok (.goto (-37), 3) := by decide +kernel
theorem dX6_mostByWord_53 : decode cX6_mostByWord 53 = .ok (.iinc 3 1, 3) := by decide +kernel
theorem dX6_mostByWord_56 : decode cX6_mostByWord 56 = .ok (.goto (-52), 3) := by decide +kernel
theorem dX6_mostByWord_59 : decode cX6_mostByWord 59 = .ok (.iload_n 2, 1) := by decide +kernel
theorem dX6_mostByWord_60 : decode cX6_mostByWord 60 = .ok (.ireturn, 1) := by decide +kernel
theorem dX6_mostAgreeing_0 : decode cX6_mostAgreeing 0 = .ok (.iconst 0, 1) := by decide +kernel
theorem dX6_mostAgreeing_1 : decode cX6_mostAgreeing 1 = .ok (.istore 4, 2) := by decide +kernel
theorem dX6_mostAgreeing_3 : decode cX6_mostAgreeing 3 = .ok (.iconst 0, 1) := by decide +kernel
theorem dX6_mostAgreeing_4 : decode cX6_mostAgreeing 4 = .ok (.istore 5, 2) := by decide +kernel
theorem dX6_mostAgreeing_6 : decode cX6_mostAgreeing 6 = .ok (.iload 5, 2) := by decide +kernel
theorem dX6_mostAgreeing_8 : decode cX6_mostAgreeing 8 = .ok (.iconst 3, 1) := by decide +kernel
theorem dX6_mostAgreeing_9 : decode cX6_mostAgreeing 9 = .ok (.if_icmp .ge 35, 3) := by decide +kernel
theorem dX6_mostAgreeing_12 : decode cX6_mostAgreeing 12 = .ok (.iload 4, 2) := by decide +kernel
theorem dX6_mostAgreeing_14 : decode cX6_mostAgreeing 14 = .ok (.lload_n 0, 1) := by decide +kernel
theorem dX6_mostAgreeing_15 : decode cX6_mostAgreeing 15 = .ok (.iload_n 2, 1) := by decide +kernel
theorem dX6_mostAgreeing_16 : decode cX6_mostAgreeing 16 = .ok (.iload_n 3, 1) := by decide +kernel
theorem dX6_mostAgreeing_17 : decode cX6_mostAgreeing 17 = .ok (.iload 5, 2) := by decide +kernel
theorem dX6_mostAgreeing_19 : decode cX6_mostAgreeing 19 = .ok (.iconst 0, 1) := by decide +kernel
theorem dX6_mostAgreeing_20 : decode cX6_mostAgreeing 20 = .ok (.invokestatic 21, 3) := by decide +kernel
theorem dX6_mostAgreeing_23 : decode cX6_mostAgreeing 23 = .ok (.lload_n 0, 1) := by decide +kernel
theorem dX6_mostAgreeing_24 : decode cX6_mostAgreeing 24 = .ok (.iload_n 2, 1) := by decide +kernel
theorem dX6_mostAgreeing_25 : decode cX6_mostAgreeing 25 = .ok (.iload_n 3, 1) := by decide +kernel
theorem dX6_mostAgreeing_26 : decode cX6_mostAgreeing 26 = .ok (.iload 5, 2) := by decide +kernel
theorem dX6_mostAgreeing_28 : decode cX6_mostAgreeing 28 = .ok (.iconst 1, 1) := by decide +kernel
theorem dX6_mostAgreeing_29 : decode cX6_mostAgreeing 29 = .ok (.invokestatic 21, 3) := by decide +kernel
theorem dX6_mostAgreeing_32 : decode cX6_mostAgreeing 32 = .ok (.invokestatic 15, 3) := by decide +kernel
theorem dX6_mostAgreeing_35 : decode cX6_mostAgreeing 35 = .ok (.iadd, 1) := by decide +kernel
theorem dX6_mostAgreeing_36 : decode cX6_mostAgreeing 36 = .ok (.istore 4, 2) := by decide +kernel
theorem dX6_mostAgreeing_38 : decode cX6_mostAgreeing 38 = .ok (.iinc 5 1, 3) := by decide +kernel
theorem dX6_mostAgreeing_41 : decode cX6_mostAgreeing 41 = .ok (.goto (-35), 3) := by decide +kernel
theorem dX6_mostAgreeing_44 : decode cX6_mostAgreeing 44 = .ok (.iload 4, 2) := by decide +kernel
theorem dX6_mostAgreeing_46 : decode cX6_mostAgreeing 46 = .ok (.ireturn, 1) := by decide +kernel
theorem dX6_agreeing_0 : decode cX6_agreeing 0 = .ok (.iconst 0, 1) := by decide +kernel
theorem dX6_agreeing_1 : decode cX6_agreeing 1 = .ok (.istore 6, 2) := by decide +kernel
theorem dX6_agreeing_3 : decode cX6_agreeing 3 = .ok (.iconst 0, 1) := by decide +kernel
theorem dX6_agreeing_4 : decode cX6_agreeing 4 = .ok (.istore 7, 2) := by decide +kernel
theorem dX6_agreeing_6 : decode cX6_agreeing 6 = .ok (.iload 7, 2) := by decide +kernel
theorem dX6_agreeing_8 : decode cX6_agreeing 8 = .ok (.iconst 3, 1) := by decide +kernel
theorem dX6_agreeing_9 : decode cX6_agreeing 9 = .ok (.if_icmp .ge 60, 3) := by decide +kernel
theorem dX6_agreeing_12 : decode cX6_agreeing 12 = .ok (.iload_n 2, 1) := by decide +kernel
theorem dX6_agreeing_13 : decode cX6_agreeing 13 = .ok (.iload 7, 2) := by decide +kernel
theorem dX6_agreeing_15 : decode cX6_agreeing 15 = .ok (.ishr, 1) := by decide +kernel
theorem dX6_agreeing_16 : decode cX6_agreeing 16 = .ok (.iconst 1, 1) := by decide +kernel
theorem dX6_agreeing_17 : decode cX6_agreeing 17 = .ok (.iand, 1) := by decide +kernel
theorem dX6_agreeing_18 : decode cX6_agreeing 18 = .ok (.istore 8, 2) := by decide +kernel
theorem dX6_agreeing_20 : decode cX6_agreeing 20 = .ok (.iload 7, 2) := by decide +kernel
theorem dX6_agreeing_22 : decode cX6_agreeing 22 = .ok (.iconst 3, 1) := by decide +kernel
theorem dX6_agreeing_23 : decode cX6_agreeing 23 = .ok (.imul, 1) := by decide +kernel
theorem dX6_agreeing_24 : decode cX6_agreeing 24 = .ok (.iload 4, 2) := by decide +kernel
theorem dX6_agreeing_26 : decode cX6_agreeing 26 = .ok (.iadd, 1) := by decide +kernel
theorem dX6_agreeing_27 : decode cX6_agreeing 27 = .ok (.iconst 2, 1) := by decide +kernel
theorem dX6_agreeing_28 : decode cX6_agreeing 28 = .ok (.imul, 1) := by decide +kernel
theorem dX6_agreeing_29 : decode cX6_agreeing 29 = .ok (.iload 8, 2) := by decide +kernel
theorem dX6_agreeing_31 : decode cX6_agreeing 31 = .ok (.iadd, 1) := by decide +kernel
theorem dX6_agreeing_32 : decode cX6_agreeing 32 = .ok (.iconst 2, 1) := by decide +kernel
theorem dX6_agreeing_33 : decode cX6_agreeing 33 = .ok (.imul, 1) := by decide +kernel
theorem dX6_agreeing_34 : decode cX6_agreeing 34 = .ok (.iload 5, 2) := by decide +kernel
theorem dX6_agreeing_36 : decode cX6_agreeing 36 = .ok (.iadd, 1) := by decide +kernel
theorem dX6_agreeing_37 : decode cX6_agreeing 37 = .ok (.istore 9, 2) := by decide +kernel
theorem dX6_agreeing_39 : decode cX6_agreeing 39 = .ok (.iload_n 3, 1) := by decide +kernel
theorem dX6_agreeing_40 : decode cX6_agreeing 40 = .ok (.iload 7, 2) := by decide +kernel
theorem dX6_agreeing_42 : decode cX6_agreeing 42 = .ok (.ishr, 1) := by decide +kernel
theorem dX6_agreeing_43 : decode cX6_agreeing 43 = .ok (.iconst 1, 1) := by decide +kernel
theorem dX6_agreeing_44 : decode cX6_agreeing 44 = .ok (.iand, 1) := by decide +kernel
theorem dX6_agreeing_45 : decode cX6_agreeing 45 = .ok (.iconst 1, 1) := by decide +kernel
theorem dX6_agreeing_46 : decode cX6_agreeing 46 = .ok (.if_icmp .ne 17, 3) := by decide +kernel
theorem dX6_agreeing_49 : decode cX6_agreeing 49 = .ok (.lload_n 0, 1) := by decide +kernel
theorem dX6_agreeing_50 : decode cX6_agreeing 50 = .ok (.iload 9, 2) := by decide +kernel
theorem dX6_agreeing_52 : decode cX6_agreeing 52 = .ok (.lshr, 1) := by decide +kernel
theorem dX6_agreeing_53 : decode cX6_agreeing 53 = .ok (.lconst 1, 1) := by decide +kernel
theorem dX6_agreeing_54 : decode cX6_agreeing 54 = .ok (.land, 1) := by decide +kernel
theorem dX6_agreeing_55 : decode cX6_agreeing 55 = .ok (.lconst 1, 1) := by decide +kernel
theorem dX6_agreeing_56 : decode cX6_agreeing 56 = .ok (.lcmp, 1) := by decide +kernel
theorem dX6_agreeing_57 : decode cX6_agreeing 57 = .ok (.ifCond .ne 6, 3) := by decide +kernel
theorem dX6_agreeing_60 : decode cX6_agreeing 60 = .ok (.iinc 6 1, 3) := by decide +kernel
theorem dX6_agreeing_63 : decode cX6_agreeing 63 = .ok (.iinc 7 1, 3) := by decide +kernel
theorem dX6_agreeing_66 : decode cX6_agreeing 66 = .ok (.goto (-60), 3) := by decide +kernel
theorem dX6_agreeing_69 : decode cX6_agreeing 69 = .ok (.iload 6, 2) := by decide +kernel
theorem dX6_agreeing_71 : decode cX6_agreeing 71 = .ok (.ireturn, 1) := by decide +kernel
theorem dX6_isBook_0 : decode cX6_isBook 0 = .ok (.iload_n 0, 1) := by decide +kernel
theorem dX6_isBook_1 : decode cX6_isBook 1 = .ok (.iconst 1, 1) := by decide +kernel
theorem dX6_isBook_2 : decode cX6_isBook 2 = .ok (.if_icmp .lt 25, 3) := by decide +kernel
theorem dX6_isBook_5 : decode cX6_isBook 5 = .ok (.iload_n 0, 1) := by decide +kernel
theorem dX6_isBook_6 : decode cX6_isBook 6 = .ok (.iconst 4, 1) := by decide +kernel
theorem dX6_isBook_7 : decode cX6_isBook 7 = .ok (.if_icmp .gt 20, 3) := by decide +kernel
theorem dX6_isBook_10 : decode cX6_isBook 10 = .ok (.iload_n 1, 1) := by decide +kernel
theorem dX6_isBook_11 : decode cX6_isBook 11 = .ok (.ifCond .lt 16, 3) := by decide +kernel
theorem dX6_isBook_14 : decode cX6_isBook 14 = .ok (.iload_n 1, 1) := by decide +kernel
theorem dX6_isBook_15 : decode cX6_isBook 15 = .ok (.iconst 1, 1) := by decide +kernel
theorem dX6_isBook_16 : decode cX6_isBook 16 = .ok (.iconst 1, 1) := by decide +kernel
theorem dX6_isBook_17 : decode cX6_isBook 17 = .ok (.iload_n 0, 1) := by decide +kernel
theorem dX6_isBook_18 : decode cX6_isBook 18 = .ok (.ishl, 1) := by decide +kernel
theorem dX6_isBook_19 : decode cX6_isBook 19 = .ok (.ishl, 1) := by decide +kernel
theorem dX6_isBook_20 : decode cX6_isBook 20 = .ok (.if_icmp .ge 7, 3) := by decide +kernel
theorem dX6_isBook_23 : decode cX6_isBook 23 = .ok (.iconst 1, 1) := by decide +kernel
theorem dX6_isBook_24 : decode cX6_isBook 24 = .ok (.goto 4, 3) := by decide +kernel
theorem dX6_isBook_27 : decode cX6_isBook 27 = .ok (.iconst 0, 1) := by decide +kernel
theorem dX6_isBook_28 : decode cX6_isBook 28 = .ok (.ireturn, 1) := by decide +kernel
theorem dX6_pairsCaught_0 : decode cX6_pairsCaught 0 = .ok (.iconst 0, 1) := by decide +kernel
theorem dX6_pairsCaught_1 : decode cX6_pairsCaught 1 = .ok (.istore_n 2, 1) := by decide +kernel
theorem dX6_pairsCaught_2 : decode cX6_pairsCaught 2 = .ok (.iconst 0, 1) := by decide +kernel
theorem dX6_pairsCaught_3 : decode cX6_pairsCaught 3 = .ok (.istore_n 3, 1) := by decide +kernel
theorem dX6_pairsCaught_4 : decode cX6_pairsCaught 4 = .ok (.iload_n 3, 1) := by decide +kernel
theorem dX6_pairsCaught_5 : decode cX6_pairsCaught 5 = .ok (.iconst 1, 1) := by decide +kernel
theorem dX6_pairsCaught_6 : decode cX6_pairsCaught 6 = .ok (.iload_n 0, 1) := by decide +kernel
theorem dX6_pairsCaught_7 : decode cX6_pairsCaught 7 = .ok (.ishl, 1) := by decide +kernel
theorem dX6_pairsCaught_8 : decode cX6_pairsCaught 8 = .ok (.if_icmp .ge 46, 3) := by decide +kernel
theorem dX6_pairsCaught_11 : decode cX6_pairsCaught 11 = .ok (.iconst 0, 1) := by decide +kernel
theorem dX6_pairsCaught_12 : decode cX6_pairsCaught 12 = .ok (.istore 4, 2) := by decide +kernel
theorem dX6_pairsCaught_14 : decode cX6_pairsCaught 14 = .ok (.iload 4, 2) := by decide +kernel
theorem dX6_pairsCaught_16 : decode cX6_pairsCaught 16 = .ok (.iconst 1, 1) := by decide +kernel
theorem dX6_pairsCaught_17 : decode cX6_pairsCaught 17 = .ok (.iload_n 0, 1) := by decide +kernel
theorem dX6_pairsCaught_18 : decode cX6_pairsCaught 18 = .ok (.ishl, 1) := by decide +kernel
theorem dX6_pairsCaught_19 : decode cX6_pairsCaught 19 = .ok (.if_icmp .ge 29, 3) := by decide +kernel
theorem dX6_pairsCaught_22 : decode cX6_pairsCaught 22 = .ok (.iload_n 2, 1) := by decide +kernel
theorem dX6_pairsCaught_23 : decode cX6_pairsCaught 23 = .ok (.iload_n 1, 1) := by decide +kernel
theorem dX6_pairsCaught_24 : decode cX6_pairsCaught 24 = .ok (.iload_n 3, 1) := by decide +kernel
theorem dX6_pairsCaught_25 : decode cX6_pairsCaught 25 = .ok (.iload 4, 2) := by decide +kernel
theorem dX6_pairsCaught_27 : decode cX6_pairsCaught 27 = .ok (.ixor, 1) := by decide +kernel
theorem dX6_pairsCaught_28 : decode cX6_pairsCaught 28 = .ok (.ishr, 1) := by decide +kernel
theorem dX6_pairsCaught_29 : decode cX6_pairsCaught 29 = .ok (.iload_n 1, 1) := by decide +kernel
theorem dX6_pairsCaught_30 : decode cX6_pairsCaught 30 = .ok (.iload_n 3, 1) := by decide +kernel
theorem dX6_pairsCaught_31 : decode cX6_pairsCaught 31 = .ok (.ishr, 1) := by decide +kernel
theorem dX6_pairsCaught_32 : decode cX6_pairsCaught 32 = .ok (.ixor, 1) := by decide +kernel
theorem dX6_pairsCaught_33 : decode cX6_pairsCaught 33 = .ok (.iload_n 1, 1) := by decide +kernel
theorem dX6_pairsCaught_34 : decode cX6_pairsCaught 34 = .ok (.iload 4, 2) := by decide +kernel
theorem dX6_pairsCaught_36 : decode cX6_pairsCaught 36 = .ok (.ishr, 1) := by decide +kernel
theorem dX6_pairsCaught_37 : decode cX6_pairsCaught 37 = .ok (.ixor, 1) := by decide +kernel
theorem dX6_pairsCaught_38 : decode cX6_pairsCaught 38 = .ok (.iconst 1, 1) := by decide +kernel
theorem dX6_pairsCaught_39 : decode cX6_pairsCaught 39 = .ok (.iand, 1) := by decide +kernel
theorem dX6_pairsCaught_40 : decode cX6_pairsCaught 40 = .ok (.iadd, 1) := by decide +kernel
theorem dX6_pairsCaught_41 : decode cX6_pairsCaught 41 = .ok (.istore_n 2, 1) := by decide +kernel
theorem dX6_pairsCaught_42 : decode cX6_pairsCaught 42 = .ok (.iinc 4 1, 3) := by decide +kernel
theorem dX6_pairsCaught_45 : decode cX6_pairsCaught 45 = .ok (.goto (-31), 3) := by decide +kernel
theorem dX6_pairsCaught_48 : decode cX6_pairsCaught 48 = .ok (.iinc 3 1, 3) := by decide +kernel
theorem dX6_pairsCaught_51 : decode cX6_pairsCaught 51 = .ok (.goto (-47), 3) := by decide +kernel
theorem dX6_pairsCaught_54 : decode cX6_pairsCaught 54 = .ok (.iload_n 2, 1) := by decide +kernel
theorem dX6_pairsCaught_55 : decode cX6_pairsCaught 55 = .ok (.ireturn, 1) := by decide +kernel
theorem dX6_nearestLinear_0 : decode cX6_nearestLinear 0 = .ok (.iconst 0, 1) := by decide +kernel
theorem dX6_nearestLinear_1 : decode cX6_nearestLinear 1 = .ok (.istore_n 2, 1) := by decide +kernel
theorem dX6_nearestLinear_2 : decode cX6_nearestLinear 2 = .ok (.iconst 0, 1) := by decide +kernel
theorem dX6_nearestLinear_3 : decode cX6_nearestLinear 3 = .ok (.istore_n 3, 1) := by decide +kernel
theorem dX6_nearestLinear_4 : decode cX6_nearestLinear 4 = .ok (.iload_n 3, 1) := by decide +kernel
theorem dX6_nearestLinear_5 : decode cX6_nearestLinear 5 = .ok (.iconst 1, 1) := by decide +kernel
theorem dX6_nearestLinear_6 : decode cX6_nearestLinear 6 = .ok (.iload_n 0, 1) := by decide +kernel
theorem dX6_nearestLinear_7 : decode cX6_nearestLinear 7 = .ok (.ishl, 1) := by decide +kernel
theorem dX6_nearestLinear_8 : decode cX6_nearestLinear 8 = .ok (.if_icmp .ge 51, 3) := by decide +kernel
theorem dX6_nearestLinear_11 : decode cX6_nearestLinear 11 = .ok (.iload_n 0, 1) := by decide +kernel
theorem dX6_nearestLinear_12 : decode cX6_nearestLinear 12 = .ok (.iload_n 3, 1) := by decide +kernel
theorem dX6_nearestLinear_13 : decode cX6_nearestLinear 13 = .ok (.invokestatic 25, 3) := by decide +kernel
theorem dX6_nearestLinear_16 : decode cX6_nearestLinear 16 = .ok (.istore 4, 2) := by decide +kernel
theorem dX6_nearestLinear_18 : decode cX6_nearestLinear 18 = .ok (.iload 4, 2) := by decide +kernel
theorem dX6_nearestLinear_20 : decode cX6_nearestLinear 20 = .ok (.iload_n 1, 1) := by decide +kernel
theorem dX6_nearestLinear_21 : decode cX6_nearestLinear 21 = .ok (.ixor, 1) := by decide +kernel
theorem dX6_nearestLinear_22 : decode cX6_nearestLinear 22 = .ok (.invokestatic 28, 3) := by decide +kernel
theorem dX6_nearestLinear_25 : decode cX6_nearestLinear 25 = .ok (.iload_n 2, 1) := by decide +kernel
theorem dX6_nearestLinear_26 : decode cX6_nearestLinear 26 = .ok (.iload_n 1, 1) := by decide +kernel
theorem dX6_nearestLinear_27 : decode cX6_nearestLinear 27 = .ok (.ixor, 1) := by decide +kernel
theorem dX6_nearestLinear_28 : decode cX6_nearestLinear 28 = .ok (.invokestatic 28, 3) := by decide +kernel
theorem dX6_nearestLinear_31 : decode cX6_nearestLinear 31 = .ok (.isub, 1) := by decide +kernel
theorem dX6_nearestLinear_32 : decode cX6_nearestLinear 32 = .ok (.istore 5, 2) := by decide +kernel
theorem dX6_nearestLinear_34 : decode cX6_nearestLinear 34 = .ok (.iload 5, 2) := by decide +kernel
theorem dX6_nearestLinear_36 : decode cX6_nearestLinear 36 = .ok (.ifCond .lt 14, 3) := by decide +kernel
theorem dX6_nearestLinear_39 : decode cX6_nearestLinear 39 = .ok (.iload 5, 2) := by decide +kernel
theorem dX6_nearestLinear_41 : decode cX6_nearestLinear 41 = .ok (.ifCond .ne 12, 3) := by decide +kernel
theorem dX6_nearestLinear_44 : decode cX6_nearestLinear 44 = .ok (.iload 4, 2) := by decide +kernel
theorem dX6_nearestLinear_46 : decode cX6_nearestLinear 46 = .ok (.iload_n 2, 1) := by decide +kernel
theorem dX6_nearestLinear_47 : decode cX6_nearestLinear 47 = .ok (.if_icmp .ge 6, 3) := by decide +kernel
theorem dX6_nearestLinear_50 : decode cX6_nearestLinear 50 = .ok (.iload 4, 2) := by decide +kernel
theorem dX6_nearestLinear_52 : decode cX6_nearestLinear 52 = .ok (.istore_n 2, 1) := by decide +kernel
theorem dX6_nearestLinear_53 : decode cX6_nearestLinear 53 = .ok (.iinc 3 1, 3) := by decide +kernel
theorem dX6_nearestLinear_56 : decode cX6_nearestLinear 56 = .ok (.goto (-52), 3) := by decide +kernel
theorem dX6_nearestLinear_59 : decode cX6_nearestLinear 59 = .ok (.iload_n 2, 1) := by decide +kernel
theorem dX6_nearestLinear_60 : decode cX6_nearestLinear 60 = .ok (.ireturn, 1) := by decide +kernel
theorem dX6_linearBook_0 : decode cX6_linearBook 0 = .ok (.iconst 0, 1) := by decide +kernel
theorem dX6_linearBook_1 : decode cX6_linearBook 1 = .ok (.istore_n 2, 1) := by decide +kernel
theorem dX6_linearBook_2 : decode cX6_linearBook 2 = .ok (.iconst 0, 1) := by decide +kernel
theorem dX6_linearBook_3 : decode cX6_linearBook 3 = .ok (.istore_n 3, 1) := by decide +kernel
theorem dX6_linearBook_4 : decode cX6_linearBook 4 = .ok (.iload_n 3, 1) := by decide +kernel
theorem dX6_linearBook_5 : decode cX6_linearBook 5 = .ok (.iconst 1, 1) := by decide +kernel
theorem dX6_linearBook_6 : decode cX6_linearBook 6 = .ok (.iload_n 0, 1) := by decide +kernel
theorem dX6_linearBook_7 : decode cX6_linearBook 7 = .ok (.ishl, 1) := by decide +kernel
theorem dX6_linearBook_8 : decode cX6_linearBook 8 = .ok (.if_icmp .ge 22, 3) := by decide +kernel
theorem dX6_linearBook_11 : decode cX6_linearBook 11 = .ok (.iload_n 2, 1) := by decide +kernel
theorem dX6_linearBook_12 : decode cX6_linearBook 12 = .ok (.iload_n 3, 1) := by decide +kernel
theorem dX6_linearBook_13 : decode cX6_linearBook 13 = .ok (.iload_n 1, 1) := by decide +kernel
theorem dX6_linearBook_14 : decode cX6_linearBook 14 = .ok (.iand, 1) := by decide +kernel
theorem dX6_linearBook_15 : decode cX6_linearBook 15 = .ok (.invokestatic 28, 3) := by decide +kernel
theorem dX6_linearBook_18 : decode cX6_linearBook 18 = .ok (.iconst 1, 1) := by decide +kernel
theorem dX6_linearBook_19 : decode cX6_linearBook 19 = .ok (.iand, 1) := by decide +kernel
theorem dX6_linearBook_20 : decode cX6_linearBook 20 = .ok (.iload_n 3, 1) := by decide +kernel
theorem dX6_linearBook_21 : decode cX6_linearBook 21 = .ok (.ishl, 1) := by decide +kernel
theorem dX6_linearBook_22 : decode cX6_linearBook 22 = .ok (.ior, 1) := by decide +kernel
theorem dX6_linearBook_23 : decode cX6_linearBook 23 = .ok (.istore_n 2, 1) := by decide +kernel
theorem dX6_linearBook_24 : decode cX6_linearBook 24 = .ok (.iinc 3 1, 3) := by decide +kernel
theorem dX6_linearBook_27 : decode cX6_linearBook 27 = .ok (.goto (-23), 3) := by decide +kernel
theorem dX6_linearBook_30 : decode cX6_linearBook 30 = .ok (.iload_n 2, 1) := by decide +kernel
theorem dX6_linearBook_31 : decode cX6_linearBook 31 = .ok (.ireturn, 1) := by decide +kernel
theorem dX6_mendedCell_0 : decode cX6_mendedCell 0 = .ok (.iconst 0, 1) := by decide +kernel
theorem dX6_mendedCell_1 : decode cX6_mendedCell 1 = .ok (.istore_n 3, 1) := by decide +kernel
theorem dX6_mendedCell_2 : decode cX6_mendedCell 2 = .ok (.iconst 0, 1) := by decide +kernel
theorem dX6_mendedCell_3 : decode cX6_mendedCell 3 = .ok (.istore 4, 2) := by decide +kernel
theorem dX6_mendedCell_5 : decode cX6_mendedCell 5 = .ok (.iload 4, 2) := by decide +kernel
theorem dX6_mendedCell_7 : decode cX6_mendedCell 7 = .ok (.iconst 1, 1) := by decide +kernel
theorem dX6_mendedCell_8 : decode cX6_mendedCell 8 = .ok (.iload_n 0, 1) := by decide +kernel
theorem dX6_mendedCell_9 : decode cX6_mendedCell 9 = .ok (.ishl, 1) := by decide +kernel
theorem dX6_mendedCell_10 : decode cX6_mendedCell 10 = .ok (.if_icmp .ge 25, 3) := by decide +kernel
theorem dX6_mendedCell_13 : decode cX6_mendedCell 13 = .ok (.iload_n 3, 1) := by decide +kernel
theorem dX6_mendedCell_14 : decode cX6_mendedCell 14 = .ok (.iload_n 1, 1) := by decide +kernel
theorem dX6_mendedCell_15 : decode cX6_mendedCell 15 = .ok (.iload_n 2, 1) := by decide +kernel
theorem dX6_mendedCell_16 : decode cX6_mendedCell 16 = .ok (.iload 4, 2) := by decide +kernel
theorem dX6_mendedCell_18 : decode cX6_mendedCell 18 = .ok (.ixor, 1) := by decide +kernel
theorem dX6_mendedCell_19 : decode cX6_mendedCell 19 = .ok (.ishr, 1) := by decide +kernel
theorem dX6_mendedCell_20 : decode cX6_mendedCell 20 = .ok (.iload_n 1, 1) := by decide +kernel
theorem dX6_mendedCell_21 : decode cX6_mendedCell 21 = .ok (.iload 4, 2) := by decide +kernel
theorem dX6_mendedCell_23 : decode cX6_mendedCell 23 = .ok (.ishr, 1) := by decide +kernel
theorem dX6_mendedCell_24 : decode cX6_mendedCell 24 = .ok (.ixor, 1) := by decide +kernel
theorem dX6_mendedCell_25 : decode cX6_mendedCell 25 = .ok (.iconst 1, 1) := by decide +kernel
theorem dX6_mendedCell_26 : decode cX6_mendedCell 26 = .ok (.iand, 1) := by decide +kernel
theorem dX6_mendedCell_27 : decode cX6_mendedCell 27 = .ok (.iadd, 1) := by decide +kernel
theorem dX6_mendedCell_28 : decode cX6_mendedCell 28 = .ok (.istore_n 3, 1) := by decide +kernel
theorem dX6_mendedCell_29 : decode cX6_mendedCell 29 = .ok (.iinc 4 1, 3) := by decide +kernel
theorem dX6_mendedCell_32 : decode cX6_mendedCell 32 = .ok (.goto (-27), 3) := by decide +kernel
theorem dX6_mendedCell_35 : decode cX6_mendedCell 35 = .ok (.iconst 2, 1) := by decide +kernel
theorem dX6_mendedCell_36 : decode cX6_mendedCell 36 = .ok (.iload_n 3, 1) := by decide +kernel
theorem dX6_mendedCell_37 : decode cX6_mendedCell 37 = .ok (.imul, 1) := by decide +kernel
theorem dX6_mendedCell_38 : decode cX6_mendedCell 38 = .ok (.iconst 1, 1) := by decide +kernel
theorem dX6_mendedCell_39 : decode cX6_mendedCell 39 = .ok (.iload_n 0, 1) := by decide +kernel
theorem dX6_mendedCell_40 : decode cX6_mendedCell 40 = .ok (.ishl, 1) := by decide +kernel
theorem dX6_mendedCell_41 : decode cX6_mendedCell 41 = .ok (.if_icmp .le 7, 3) := by decide +kernel
theorem dX6_mendedCell_44 : decode cX6_mendedCell 44 = .ok (.iconst 1, 1) := by decide +kernel
theorem dX6_mendedCell_45 : decode cX6_mendedCell 45 = .ok (.goto 4, 3) := by decide +kernel
theorem dX6_mendedCell_48 : decode cX6_mendedCell 48 = .ok (.iconst 0, 1) := by decide +kernel
theorem dX6_mendedCell_49 : decode cX6_mendedCell 49 = .ok (.ireturn, 1) := by decide +kernel
theorem dX6_leastCaughtBook_0 : decode cX6_leastCaughtBook 0 = .ok (.iconst (-1), 1) := by decide +kernel
theorem dX6_leastCaughtBook_1 : decode cX6_leastCaughtBook 1 = .ok (.istore_n 1, 1) := by decide +kernel
theorem dX6_leastCaughtBook_2 : decode cX6_leastCaughtBook 2 = .ok (.iconst 1, 1) := by decide +kernel
theorem dX6_leastCaughtBook_3 : decode cX6_leastCaughtBook 3 = .ok (.iload_n 0, 1) := by decide +kernel
theorem dX6_leastCaughtBook_4 : decode cX6_leastCaughtBook 4 = .ok (.ishl, 1) := by decide +kernel
theorem dX6_leastCaughtBook_5 : decode cX6_leastCaughtBook 5 = .ok (.iconst 1, 1) := by decide +kernel
theorem dX6_leastCaughtBook_6 : decode cX6_leastCaughtBook 6 = .ok (.iload_n 0, 1) := by decide +kernel
theorem dX6_leastCaughtBook_7 : decode cX6_leastCaughtBook 7 = .ok (.ishl, 1) := by decide +kernel
theorem dX6_leastCaughtBook_8 : decode cX6_leastCaughtBook 8 = .ok (.imul, 1) := by decide +kernel
theorem dX6_leastCaughtBook_9 : decode cX6_leastCaughtBook 9 = .ok (.iconst 1, 1) := by decide +kernel
theorem dX6_leastCaughtBook_10 : decode cX6_leastCaughtBook 10 = .ok (.iadd, 1) := by decide +kernel
theorem dX6_leastCaughtBook_11 : decode cX6_leastCaughtBook 11 = .ok (.istore_n 2, 1) := by decide +kernel
theorem dX6_leastCaughtBook_12 : decode cX6_leastCaughtBook 12 = .ok (.iconst 0, 1) := by decide +kernel
theorem dX6_leastCaughtBook_13 : decode cX6_leastCaughtBook 13 = .ok (.istore_n 3, 1) := by decide +kernel
theorem dX6_leastCaughtBook_14 : decode cX6_leastCaughtBook 14 = .ok (.iload_n 3, 1) := by decide +kernel
theorem dX6_leastCaughtBook_15 : decode cX6_leastCaughtBook 15 = .ok (.iconst 1, 1) := by decide +kernel
theorem dX6_leastCaughtBook_16 : decode cX6_leastCaughtBook 16 = .ok (.iconst 1, 1) := by decide +kernel
theorem dX6_leastCaughtBook_17 : decode cX6_leastCaughtBook 17 = .ok (.iload_n 0, 1) := by decide +kernel
