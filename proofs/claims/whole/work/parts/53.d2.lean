theorem dX12_goesIn_27 : decode cX12_goesIn 27 = .ok (.dup, 1) := by decide +kernel
theorem dX12_goesIn_28 : decode cX12_goesIn 28 = .ok (.getfield 122, 3) := by decide +kernel
theorem dX12_goesIn_31 : decode cX12_goesIn 31 = .ok (.iconst 1, 1) := by decide +kernel
theorem dX12_goesIn_32 : decode cX12_goesIn 32 = .ok (.iadd, 1) := by decide +kernel
theorem dX12_goesIn_33 : decode cX12_goesIn 33 = .ok (.putfield 122, 3) := by decide +kernel
theorem dX12_goesIn_36 : decode cX12_goesIn 36 = .ok (.iconst 1, 1) := by decide +kernel
theorem dX12_goesIn_37 : decode cX12_goesIn 37 = .ok (.ireturn, 1) := by decide +kernel
theorem dX12_takes_0 : decode cX12_takes 0 = .ok (.aload_n 0, 1) := by decide +kernel
theorem dX12_takes_1 : decode cX12_takes 1 = .ok (.getfield 125, 3) := by decide +kernel
theorem dX12_takes_4 : decode cX12_takes 4 = .ok (.iconst (-1), 1) := by decide +kernel
theorem dX12_takes_5 : decode cX12_takes 5 = .ok (.if_icmp .ne 11, 3) := by decide +kernel
theorem dX12_takes_8 : decode cX12_takes 8 = .ok (.aload_n 0, 1) := by decide +kernel
theorem dX12_takes_9 : decode cX12_takes 9 = .ok (.invokevirtual 138, 3) := by decide +kernel
theorem dX12_takes_12 : decode cX12_takes 12 = .ok (.iload_n 1, 1) := by decide +kernel
theorem dX12_takes_13 : decode cX12_takes 13 = .ok (.if_icmp .eq 8, 3) := by decide +kernel
theorem dX12_takes_16 : decode cX12_takes 16 = .ok (.aload_n 0, 1) := by decide +kernel
theorem dX12_takes_17 : decode cX12_takes 17 = .ok (.invokevirtual 134, 3) := by decide +kernel
theorem dX12_takes_20 : decode cX12_takes 20 = .ok (.ireturn, 1) := by decide +kernel
theorem dX12_takes_21 : decode cX12_takes 21 = .ok (.aload_n 0, 1) := by decide +kernel
theorem dX12_takes_22 : decode cX12_takes 22 = .ok (.dup, 1) := by decide +kernel
theorem dX12_takes_23 : decode cX12_takes 23 = .ok (.getfield 122, 3) := by decide +kernel
theorem dX12_takes_26 : decode cX12_takes 26 = .ok (.iconst 1, 1) := by decide +kernel
theorem dX12_takes_27 : decode cX12_takes 27 = .ok (.iadd, 1) := by decide +kernel
theorem dX12_takes_28 : decode cX12_takes 28 = .ok (.putfield 122, 3) := by decide +kernel
theorem dX12_takes_31 : decode cX12_takes 31 = .ok (.iconst 1, 1) := by decide +kernel
theorem dX12_takes_32 : decode cX12_takes 32 = .ok (.ireturn, 1) := by decide +kernel
theorem dX12_sign_0 : decode cX12_sign 0 = .ok (.aload_n 0, 1) := by decide +kernel
theorem dX12_sign_1 : decode cX12_sign 1 = .ok (.getfield 16, 3) := by decide +kernel
theorem dX12_sign_4 : decode cX12_sign 4 = .ok (.sipush 200, 3) := by decide +kernel
theorem dX12_sign_7 : decode cX12_sign 7 = .ok (.aload_n 0, 1) := by decide +kernel
theorem dX12_sign_8 : decode cX12_sign 8 = .ok (.getfield 142, 3) := by decide +kernel
theorem dX12_sign_11 : decode cX12_sign 11 = .ok (.imul, 1) := by decide +kernel
theorem dX12_sign_12 : decode cX12_sign 12 = .ok (.aload_n 0, 1) := by decide +kernel
theorem dX12_sign_13 : decode cX12_sign 13 = .ok (.getfield 20, 3) := by decide +kernel
theorem dX12_sign_16 : decode cX12_sign 16 = .ok (.aload_n 0, 1) := by decide +kernel
theorem dX12_sign_17 : decode cX12_sign 17 = .ok (.getfield 142, 3) := by decide +kernel
theorem dX12_sign_20 : decode cX12_sign 20 = .ok (.iaload, 1) := by decide +kernel
theorem dX12_sign_21 : decode cX12_sign 21 = .ok (.iadd, 1) := by decide +kernel
theorem dX12_sign_22 : decode cX12_sign 22 = .ok (.iload_n 1, 1) := by decide +kernel
theorem dX12_sign_23 : decode cX12_sign 23 = .ok (.iastore, 1) := by decide +kernel
theorem dX12_sign_24 : decode cX12_sign 24 = .ok (.aload_n 0, 1) := by decide +kernel
theorem dX12_sign_25 : decode cX12_sign 25 = .ok (.getfield 20, 3) := by decide +kernel
theorem dX12_sign_28 : decode cX12_sign 28 = .ok (.aload_n 0, 1) := by decide +kernel
theorem dX12_sign_29 : decode cX12_sign 29 = .ok (.getfield 142, 3) := by decide +kernel
theorem dX12_sign_32 : decode cX12_sign 32 = .ok (.dup2, 1) := by decide +kernel
theorem dX12_sign_33 : decode cX12_sign 33 = .ok (.iaload, 1) := by decide +kernel
theorem dX12_sign_34 : decode cX12_sign 34 = .ok (.iconst 1, 1) := by decide +kernel
theorem dX12_sign_35 : decode cX12_sign 35 = .ok (.iadd, 1) := by decide +kernel
theorem dX12_sign_36 : decode cX12_sign 36 = .ok (.iastore, 1) := by decide +kernel
theorem dX12_sign_37 : decode cX12_sign 37 = .ok (.iload_n 1, 1) := by decide +kernel
theorem dX12_sign_38 : decode cX12_sign 38 = .ok (.iconst 5, 1) := by decide +kernel
theorem dX12_sign_39 : decode cX12_sign 39 = .ok (.if_icmp .le 17, 3) := by decide +kernel
theorem dX12_sign_42 : decode cX12_sign 42 = .ok (.aload_n 0, 1) := by decide +kernel
theorem dX12_sign_43 : decode cX12_sign 43 = .ok (.getfield 29, 3) := by decide +kernel
theorem dX12_sign_46 : decode cX12_sign 46 = .ok (.aload_n 0, 1) := by decide +kernel
theorem dX12_sign_47 : decode cX12_sign 47 = .ok (.getfield 142, 3) := by decide +kernel
theorem dX12_sign_50 : decode cX12_sign 50 = .ok (.dup2, 1) := by decide +kernel
theorem dX12_sign_51 : decode cX12_sign 51 = .ok (.iaload, 1) := by decide +kernel
theorem dX12_sign_52 : decode cX12_sign 52 = .ok (.iconst 1, 1) := by decide +kernel
theorem dX12_sign_53 : decode cX12_sign 53 = .ok (.iadd, 1) := by decide +kernel
theorem dX12_sign_54 : decode cX12_sign 54 = .ok (.iastore, 1) := by decide +kernel
theorem dX12_sign_55 : decode cX12_sign 55 = .ok (.return_, 1) := by decide +kernel
theorem dX12_sign_56 : decode cX12_sign 56 = .ok (.aload_n 0, 1) := by decide +kernel
theorem dX12_sign_57 : decode cX12_sign 57 = .ok (.getfield 26, 3) := by decide +kernel
theorem dX12_sign_60 : decode cX12_sign 60 = .ok (.bipush 6, 2) := by decide +kernel
theorem dX12_sign_62 : decode cX12_sign 62 = .ok (.aload_n 0, 1) := by decide +kernel
theorem dX12_sign_63 : decode cX12_sign 63 = .ok (.getfield 142, 3) := by decide +kernel
theorem dX12_sign_66 : decode cX12_sign 66 = .ok (.imul, 1) := by decide +kernel
theorem dX12_sign_67 : decode cX12_sign 67 = .ok (.iload_n 1, 1) := by decide +kernel
theorem dX12_sign_68 : decode cX12_sign 68 = .ok (.iadd, 1) := by decide +kernel
theorem dX12_sign_69 : decode cX12_sign 69 = .ok (.dup2, 1) := by decide +kernel
theorem dX12_sign_70 : decode cX12_sign 70 = .ok (.iaload, 1) := by decide +kernel
theorem dX12_sign_71 : decode cX12_sign 71 = .ok (.iconst 1, 1) := by decide +kernel
theorem dX12_sign_72 : decode cX12_sign 72 = .ok (.iadd, 1) := by decide +kernel
theorem dX12_sign_73 : decode cX12_sign 73 = .ok (.iastore, 1) := by decide +kernel
theorem dX12_sign_74 : decode cX12_sign 74 = .ok (.aload_n 0, 1) := by decide +kernel
theorem dX12_sign_75 : decode cX12_sign 75 = .ok (.getfield 23, 3) := by decide +kernel
theorem dX12_sign_78 : decode cX12_sign 78 = .ok (.aload_n 0, 1) := by decide +kernel
theorem dX12_sign_79 : decode cX12_sign 79 = .ok (.getfield 142, 3) := by decide +kernel
theorem dX12_sign_82 : decode cX12_sign 82 = .ok (.aload_n 0, 1) := by decide +kernel
theorem dX12_sign_83 : decode cX12_sign 83 = .ok (.getfield 23, 3) := by decide +kernel
theorem dX12_sign_86 : decode cX12_sign 86 = .ok (.aload_n 0, 1) := by decide +kernel
theorem dX12_sign_87 : decode cX12_sign 87 = .ok (.getfield 142, 3) := by decide +kernel
theorem dX12_sign_90 : decode cX12_sign 90 = .ok (.iaload, 1) := by decide +kernel
theorem dX12_sign_91 : decode cX12_sign 91 = .ok (.iload_n 1, 1) := by decide +kernel
theorem dX12_sign_92 : decode cX12_sign 92 = .ok (.iconst 1, 1) := by decide +kernel
theorem dX12_sign_93 : decode cX12_sign 93 = .ok (.iadd, 1) := by decide +kernel
theorem dX12_sign_94 : decode cX12_sign 94 = .ok (.invokestatic 145, 3) := by decide +kernel
theorem dX12_sign_97 : decode cX12_sign 97 = .ok (.iastore, 1) := by decide +kernel
theorem dX12_sign_98 : decode cX12_sign 98 = .ok (.return_, 1) := by decide +kernel
theorem dX12_ors_0 : decode cX12_ors 0 = .ok (.aload_n 0, 1) := by decide +kernel
theorem dX12_ors_1 : decode cX12_ors 1 = .ok (.invokevirtual 151, 3) := by decide +kernel
theorem dX12_ors_4 : decode cX12_ors 4 = .ok (.aload_n 0, 1) := by decide +kernel
theorem dX12_ors_5 : decode cX12_ors 5 = .ok (.getfield 125, 3) := by decide +kernel
theorem dX12_ors_8 : decode cX12_ors 8 = .ok (.iconst (-1), 1) := by decide +kernel
theorem dX12_ors_9 : decode cX12_ors 9 = .ok (.if_icmp .ne 43, 3) := by decide +kernel
theorem dX12_ors_12 : decode cX12_ors 12 = .ok (.aload_n 0, 1) := by decide +kernel
theorem dX12_ors_13 : decode cX12_ors 13 = .ok (.invokevirtual 138, 3) := by decide +kernel
theorem dX12_ors_16 : decode cX12_ors 16 = .ok (.bipush 124, 2) := by decide +kernel
theorem dX12_ors_18 : decode cX12_ors 18 = .ok (.if_icmp .ne 34, 3) := by decide +kernel
theorem dX12_ors_21 : decode cX12_ors 21 = .ok (.aload_n 0, 1) := by decide +kernel
theorem dX12_ors_22 : decode cX12_ors 22 = .ok (.dup, 1) := by decide +kernel
theorem dX12_ors_23 : decode cX12_ors 23 = .ok (.getfield 122, 3) := by decide +kernel
theorem dX12_ors_26 : decode cX12_ors 26 = .ok (.iconst 1, 1) := by decide +kernel
theorem dX12_ors_27 : decode cX12_ors 27 = .ok (.iadd, 1) := by decide +kernel
theorem dX12_ors_28 : decode cX12_ors 28 = .ok (.putfield 122, 3) := by decide +kernel
theorem dX12_ors_31 : decode cX12_ors 31 = .ok (.aload_n 0, 1) := by decide +kernel
theorem dX12_ors_32 : decode cX12_ors 32 = .ok (.invokevirtual 151, 3) := by decide +kernel
theorem dX12_ors_35 : decode cX12_ors 35 = .ok (.aload_n 0, 1) := by decide +kernel
theorem dX12_ors_36 : decode cX12_ors 36 = .ok (.getfield 125, 3) := by decide +kernel
theorem dX12_ors_39 : decode cX12_ors 39 = .ok (.iconst (-1), 1) := by decide +kernel
theorem dX12_ors_40 : decode cX12_ors 40 = .ok (.if_icmp .ne (-36), 3) := by decide +kernel
theorem dX12_ors_43 : decode cX12_ors 43 = .ok (.aload_n 0, 1) := by decide +kernel
theorem dX12_ors_44 : decode cX12_ors 44 = .ok (.bipush 8, 2) := by decide +kernel
theorem dX12_ors_46 : decode cX12_ors 46 = .ok (.invokevirtual 154, 3) := by decide +kernel
theorem dX12_ors_49 : decode cX12_ors 49 = .ok (.goto (-45), 3) := by decide +kernel
theorem dX12_ors_52 : decode cX12_ors 52 = .ok (.return_, 1) := by decide +kernel
theorem dX12_ands_0 : decode cX12_ands 0 = .ok (.aload_n 0, 1) := by decide +kernel
theorem dX12_ands_1 : decode cX12_ands 1 = .ok (.invokevirtual 157, 3) := by decide +kernel
theorem dX12_ands_4 : decode cX12_ands 4 = .ok (.aload_n 0, 1) := by decide +kernel
theorem dX12_ands_5 : decode cX12_ands 5 = .ok (.getfield 125, 3) := by decide +kernel
theorem dX12_ands_8 : decode cX12_ands 8 = .ok (.iconst (-1), 1) := by decide +kernel
theorem dX12_ands_9 : decode cX12_ands 9 = .ok (.if_icmp .ne 43, 3) := by decide +kernel
theorem dX12_ands_12 : decode cX12_ands 12 = .ok (.aload_n 0, 1) := by decide +kernel
theorem dX12_ands_13 : decode cX12_ands 13 = .ok (.invokevirtual 138, 3) := by decide +kernel
theorem dX12_ands_16 : decode cX12_ands 16 = .ok (.bipush 38, 2) := by decide +kernel
theorem dX12_ands_18 : decode cX12_ands 18 = .ok (.if_icmp .ne 34, 3) := by decide +kernel
theorem dX12_ands_21 : decode cX12_ands 21 = .ok (.aload_n 0, 1) := by decide +kernel
theorem dX12_ands_22 : decode cX12_ands 22 = .ok (.dup, 1) := by decide +kernel
theorem dX12_ands_23 : decode cX12_ands 23 = .ok (.getfield 122, 3) := by decide +kernel
theorem dX12_ands_26 : decode cX12_ands 26 = .ok (.iconst 1, 1) := by decide +kernel
theorem dX12_ands_27 : decode cX12_ands 27 = .ok (.iadd, 1) := by decide +kernel
theorem dX12_ands_28 : decode cX12_ands 28 = .ok (.putfield 122, 3) := by decide +kernel
theorem dX12_ands_31 : decode cX12_ands 31 = .ok (.aload_n 0, 1) := by decide +kernel
theorem dX12_ands_32 : decode cX12_ands 32 = .ok (.invokevirtual 157, 3) := by decide +kernel
theorem dX12_ands_35 : decode cX12_ands 35 = .ok (.aload_n 0, 1) := by decide +kernel
theorem dX12_ands_36 : decode cX12_ands 36 = .ok (.getfield 125, 3) := by decide +kernel
theorem dX12_ands_39 : decode cX12_ands 39 = .ok (.iconst (-1), 1) := by decide +kernel
theorem dX12_ands_40 : decode cX12_ands 40 = .ok (.if_icmp .ne (-36), 3) := by decide +kernel
theorem dX12_ands_43 : decode cX12_ands 43 = .ok (.aload_n 0, 1) := by decide +kernel
theorem dX12_ands_44 : decode cX12_ands 44 = .ok (.bipush 7, 2) := by decide +kernel
theorem dX12_ands_46 : decode cX12_ands 46 = .ok (.invokevirtual 154, 3) := by decide +kernel
theorem dX12_ands_49 : decode cX12_ands 49 = .ok (.goto (-45), 3) := by decide +kernel
theorem dX12_ands_52 : decode cX12_ands 52 = .ok (.return_, 1) := by decide +kernel
theorem dX12_saidUnit_0 : decode cX12_saidUnit 0 = .ok (.aload_n 0, 1) := by decide +kernel
theorem dX12_saidUnit_1 : decode cX12_saidUnit 1 = .ok (.invokevirtual 138, 3) := by decide +kernel
theorem dX12_saidUnit_4 : decode cX12_saidUnit 4 = .ok (.istore_n 1, 1) := by decide +kernel
theorem dX12_saidUnit_5 : decode cX12_saidUnit 5 = .ok (.iload_n 1, 1) := by decide +kernel
theorem dX12_saidUnit_6 : decode cX12_saidUnit 6 = .ok (.bipush 97, 2) := by decide +kernel
theorem dX12_saidUnit_8 : decode cX12_saidUnit 8 = .ok (.if_icmp .lt 28, 3) := by decide +kernel
theorem dX12_saidUnit_11 : decode cX12_saidUnit 11 = .ok (.iload_n 1, 1) := by decide +kernel
theorem dX12_saidUnit_12 : decode cX12_saidUnit 12 = .ok (.bipush 102, 2) := by decide +kernel
theorem dX12_saidUnit_14 : decode cX12_saidUnit 14 = .ok (.if_icmp .gt 22, 3) := by decide +kernel
theorem dX12_saidUnit_17 : decode cX12_saidUnit 17 = .ok (.aload_n 0, 1) := by decide +kernel
theorem dX12_saidUnit_18 : decode cX12_saidUnit 18 = .ok (.dup, 1) := by decide +kernel
theorem dX12_saidUnit_19 : decode cX12_saidUnit 19 = .ok (.getfield 122, 3) := by decide +kernel
theorem dX12_saidUnit_22 : decode cX12_saidUnit 22 = .ok (.iconst 1, 1) := by decide +kernel
theorem dX12_saidUnit_23 : decode cX12_saidUnit 23 = .ok (.iadd, 1) := by decide +kernel
theorem dX12_saidUnit_24 : decode cX12_saidUnit 24 = .ok (.putfield 122, 3) := by decide +kernel
theorem dX12_saidUnit_27 : decode cX12_saidUnit 27 = .ok (.aload_n 0, 1) := by decide +kernel
theorem dX12_saidUnit_28 : decode cX12_saidUnit 28 = .ok (.iload_n 1, 1) := by decide +kernel
theorem dX12_saidUnit_29 : decode cX12_saidUnit 29 = .ok (.bipush 97, 2) := by decide +kernel
theorem dX12_saidUnit_31 : decode cX12_saidUnit 31 = .ok (.isub, 1) := by decide +kernel
theorem dX12_saidUnit_32 : decode cX12_saidUnit 32 = .ok (.invokevirtual 154, 3) := by decide +kernel
theorem dX12_saidUnit_35 : decode cX12_saidUnit 35 = .ok (.return_, 1) := by decide +kernel
theorem dX12_saidUnit_36 : decode cX12_saidUnit 36 = .ok (.iload_n 1, 1) := by decide +kernel
theorem dX12_saidUnit_37 : decode cX12_saidUnit 37 = .ok (.bipush 33, 2) := by decide +kernel
theorem dX12_saidUnit_39 : decode cX12_saidUnit 39 = .ok (.if_icmp .eq 15, 3) := by decide +kernel
theorem dX12_saidUnit_42 : decode cX12_saidUnit 42 = .ok (.iload_n 1, 1) := by decide +kernel
theorem dX12_saidUnit_43 : decode cX12_saidUnit 43 = .ok (.bipush 40, 2) := by decide +kernel
theorem dX12_saidUnit_45 : decode cX12_saidUnit 45 = .ok (.if_icmp .eq 9, 3) := by decide +kernel
theorem dX12_saidUnit_48 : decode cX12_saidUnit 48 = .ok (.aload_n 0, 1) := by decide +kernel
theorem dX12_saidUnit_49 : decode cX12_saidUnit 49 = .ok (.invokevirtual 134, 3) := by decide +kernel
theorem dX12_saidUnit_52 : decode cX12_saidUnit 52 = .ok (.pop, 1) := by decide +kernel
theorem dX12_saidUnit_53 : decode cX12_saidUnit 53 = .ok (.return_, 1) := by decide +kernel
theorem dX12_saidUnit_54 : decode cX12_saidUnit 54 = .ok (.aload_n 0, 1) := by decide +kernel
theorem dX12_saidUnit_55 : decode cX12_saidUnit 55 = .ok (.invokevirtual 160, 3) := by decide +kernel
theorem dX12_saidUnit_58 : decode cX12_saidUnit 58 = .ok (.ifCond .ne 4, 3) := by decide +kernel
theorem dX12_saidUnit_61 : decode cX12_saidUnit 61 = .ok (.return_, 1) := by decide +kernel
theorem dX12_saidUnit_62 : decode cX12_saidUnit 62 = .ok (.iload_n 1, 1) := by decide +kernel
theorem dX12_saidUnit_63 : decode cX12_saidUnit 63 = .ok (.bipush 33, 2) := by decide +kernel
theorem dX12_saidUnit_65 : decode cX12_saidUnit 65 = .ok (.if_icmp .ne 24, 3) := by decide +kernel
theorem dX12_saidUnit_68 : decode cX12_saidUnit 68 = .ok (.aload_n 0, 1) := by decide +kernel
theorem dX12_saidUnit_69 : decode cX12_saidUnit 69 = .ok (.invokevirtual 157, 3) := by decide +kernel
theorem dX12_saidUnit_72 : decode cX12_saidUnit 72 = .ok (.aload_n 0, 1) := by decide +kernel
theorem dX12_saidUnit_73 : decode cX12_saidUnit 73 = .ok (.getfield 125, 3) := by decide +kernel
theorem dX12_saidUnit_76 : decode cX12_saidUnit 76 = .ok (.iconst (-1), 1) := by decide +kernel
theorem dX12_saidUnit_77 : decode cX12_saidUnit 77 = .ok (.if_icmp .ne 26, 3) := by decide +kernel
theorem dX12_saidUnit_80 : decode cX12_saidUnit 80 = .ok (.aload_n 0, 1) := by decide +kernel
theorem dX12_saidUnit_81 : decode cX12_saidUnit 81 = .ok (.bipush 6, 2) := by decide +kernel
theorem dX12_saidUnit_83 : decode cX12_saidUnit 83 = .ok (.invokevirtual 154, 3) := by decide +kernel
theorem dX12_saidUnit_86 : decode cX12_saidUnit 86 = .ok (.goto 17, 3) := by decide +kernel
theorem dX12_saidUnit_89 : decode cX12_saidUnit 89 = .ok (.aload_n 0, 1) := by decide +kernel
theorem dX12_saidUnit_90 : decode cX12_saidUnit 90 = .ok (.invokevirtual 163, 3) := by decide +kernel
theorem dX12_saidUnit_93 : decode cX12_saidUnit 93 = .ok (.aload_n 0, 1) := by decide +kernel
theorem dX12_saidUnit_94 : decode cX12_saidUnit 94 = .ok (.bipush 41, 2) := by decide +kernel
theorem dX12_saidUnit_96 : decode cX12_saidUnit 96 = .ok (.invokevirtual 166, 3) := by decide +kernel
theorem dX12_saidUnit_99 : decode cX12_saidUnit 99 = .ok (.ifCond .ne 4, 3) := by decide +kernel
theorem dX12_saidUnit_102 : decode cX12_saidUnit 102 = .ok (.return_, 1) := by decide +kernel
theorem dX12_saidUnit_103 : decode cX12_saidUnit 103 = .ok (.aload_n 0, 1) := by decide +kernel
theorem dX12_saidUnit_104 : decode cX12_saidUnit 104 = .ok (.dup, 1) := by decide +kernel
theorem dX12_saidUnit_105 : decode cX12_saidUnit 105 = .ok (.getfield 128, 3) := by decide +kernel
theorem dX12_saidUnit_108 : decode cX12_saidUnit 108 = .ok (.iconst 1, 1) := by decide +kernel
theorem dX12_saidUnit_109 : decode cX12_saidUnit 109 = .ok (.isub, 1) := by decide +kernel
theorem dX12_saidUnit_110 : decode cX12_saidUnit 110 = .ok (.putfield 128, 3) := by decide +kernel
theorem dX12_saidUnit_113 : decode cX12_saidUnit 113 = .ok (.return_, 1) := by decide +kernel
theorem dX12_readSaying_0 : decode cX12_readSaying 0 = .ok (.aload_n 0, 1) := by decide +kernel
theorem dX12_readSaying_1 : decode cX12_readSaying 1 = .ok (.aload_n 0, 1) := by decide +kernel
theorem dX12_readSaying_2 : decode cX12_readSaying 2 = .ok (.getfield 170, 3) := by decide +kernel
theorem dX12_readSaying_5 : decode cX12_readSaying 5 = .ok (.putfield 142, 3) := by decide +kernel
theorem dX12_readSaying_8 : decode cX12_readSaying 8 = .ok (.aload_n 0, 1) := by decide +kernel
theorem dX12_readSaying_9 : decode cX12_readSaying 9 = .ok (.getfield 20, 3) := by decide +kernel
theorem dX12_readSaying_12 : decode cX12_readSaying 12 = .ok (.aload_n 0, 1) := by decide +kernel
theorem dX12_readSaying_13 : decode cX12_readSaying 13 = .ok (.getfield 142, 3) := by decide +kernel
theorem dX12_readSaying_16 : decode cX12_readSaying 16 = .ok (.iconst 0, 1) := by decide +kernel
theorem dX12_readSaying_17 : decode cX12_readSaying 17 = .ok (.iastore, 1) := by decide +kernel
theorem dX12_readSaying_18 : decode cX12_readSaying 18 = .ok (.aload_n 0, 1) := by decide +kernel
theorem dX12_readSaying_19 : decode cX12_readSaying 19 = .ok (.getfield 23, 3) := by decide +kernel
theorem dX12_readSaying_22 : decode cX12_readSaying 22 = .ok (.aload_n 0, 1) := by decide +kernel
theorem dX12_readSaying_23 : decode cX12_readSaying 23 = .ok (.getfield 142, 3) := by decide +kernel
theorem dX12_readSaying_26 : decode cX12_readSaying 26 = .ok (.iconst 0, 1) := by decide +kernel
theorem dX12_readSaying_27 : decode cX12_readSaying 27 = .ok (.iastore, 1) := by decide +kernel
theorem dX12_readSaying_28 : decode cX12_readSaying 28 = .ok (.aload_n 0, 1) := by decide +kernel
theorem dX12_readSaying_29 : decode cX12_readSaying 29 = .ok (.getfield 29, 3) := by decide +kernel
theorem dX12_readSaying_32 : decode cX12_readSaying 32 = .ok (.aload_n 0, 1) := by decide +kernel
theorem dX12_readSaying_33 : decode cX12_readSaying 33 = .ok (.getfield 142, 3) := by decide +kernel
theorem dX12_readSaying_36 : decode cX12_readSaying 36 = .ok (.iconst 0, 1) := by decide +kernel
theorem dX12_readSaying_37 : decode cX12_readSaying 37 = .ok (.iastore, 1) := by decide +kernel
theorem dX12_readSaying_38 : decode cX12_readSaying 38 = .ok (.iconst 0, 1) := by decide +kernel
theorem dX12_readSaying_39 : decode cX12_readSaying 39 = .ok (.istore_n 1, 1) := by decide +kernel
theorem dX12_readSaying_40 : decode cX12_readSaying 40 = .ok (.iload_n 1, 1) := by decide +kernel
theorem dX12_readSaying_41 : decode cX12_readSaying 41 = .ok (.bipush 6, 2) := by decide +kernel
theorem dX12_readSaying_43 : decode cX12_readSaying 43 = .ok (.if_icmp .ge 24, 3) := by decide +kernel
theorem dX12_readSaying_46 : decode cX12_readSaying 46 = .ok (.aload_n 0, 1) := by decide +kernel
theorem dX12_readSaying_47 : decode cX12_readSaying 47 = .ok (.getfield 26, 3) := by decide +kernel
theorem dX12_readSaying_50 : decode cX12_readSaying 50 = .ok (.bipush 6, 2) := by decide +kernel
theorem dX12_readSaying_52 : decode cX12_readSaying 52 = .ok (.aload_n 0, 1) := by decide +kernel
theorem dX12_readSaying_53 : decode cX12_readSaying 53 = .ok (.getfield 142, 3) := by decide +kernel
theorem dX12_readSaying_56 : decode cX12_readSaying 56 = .ok (.imul, 1) := by decide +kernel
theorem dX12_readSaying_57 : decode cX12_readSaying 57 = .ok (.iload_n 1, 1) := by decide +kernel
theorem dX12_readSaying_58 : decode cX12_readSaying 58 = .ok (.iadd, 1) := by decide +kernel
theorem dX12_readSaying_59 : decode cX12_readSaying 59 = .ok (.iconst 0, 1) := by decide +kernel
theorem dX12_readSaying_60 : decode cX12_readSaying 60 = .ok (.iastore, 1) := by decide +kernel
theorem dX12_readSaying_61 : decode cX12_readSaying 61 = .ok (.iinc 1 1, 3) := by decide +kernel
theorem dX12_readSaying_64 : decode cX12_readSaying 64 = .ok (.goto (-24), 3) := by decide +kernel
theorem dX12_readSaying_67 : decode cX12_readSaying 67 = .ok (.aload_n 0, 1) := by decide +kernel
theorem dX12_readSaying_68 : decode cX12_readSaying 68 = .ok (.aload_n 0, 1) := by decide +kernel
theorem dX12_readSaying_69 : decode cX12_readSaying 69 = .ok (.getfield 9, 3) := by decide +kernel
theorem dX12_readSaying_72 : decode cX12_readSaying 72 = .ok (.iconst 0, 1) := by decide +kernel
theorem dX12_readSaying_73 : decode cX12_readSaying 73 = .ok (.aload_n 0, 1) := by decide +kernel
theorem dX12_readSaying_74 : decode cX12_readSaying 74 = .ok (.getfield 105, 3) := by decide +kernel
theorem dX12_readSaying_77 : decode cX12_readSaying 77 = .ok (.bipush 8, 2) := by decide +kernel
theorem dX12_readSaying_79 : decode cX12_readSaying 79 = .ok (.invokevirtual 173, 3) := by decide +kernel
theorem dX12_readSaying_82 : decode cX12_readSaying 82 = .ok (.aload_n 0, 1) := by decide +kernel
theorem dX12_readSaying_83 : decode cX12_readSaying 83 = .ok (.invokevirtual 163, 3) := by decide +kernel
theorem dX12_readSaying_86 : decode cX12_readSaying 86 = .ok (.aload_n 0, 1) := by decide +kernel
theorem dX12_readSaying_87 : decode cX12_readSaying 87 = .ok (.getfield 125, 3) := by decide +kernel
theorem dX12_readSaying_90 : decode cX12_readSaying 90 = .ok (.iconst (-1), 1) := by decide +kernel
theorem dX12_readSaying_91 : decode cX12_readSaying 91 = .ok (.if_icmp .ne 16, 3) := by decide +kernel
theorem dX12_readSaying_94 : decode cX12_readSaying 94 = .ok (.aload_n 0, 1) := by decide +kernel
theorem dX12_readSaying_95 : decode cX12_readSaying 95 = .ok (.invokevirtual 138, 3) := by decide +kernel
theorem dX12_readSaying_98 : decode cX12_readSaying 98 = .ok (.iconst (-1), 1) := by decide +kernel
theorem dX12_readSaying_99 : decode cX12_readSaying 99 = .ok (.if_icmp .eq 8, 3) := by decide +kernel
theorem dX12_readSaying_102 : decode cX12_readSaying 102 = .ok (.aload_n 0, 1) := by decide +kernel
theorem dX12_readSaying_103 : decode cX12_readSaying 103 = .ok (.invokevirtual 134, 3) := by decide +kernel
theorem dX12_readSaying_106 : decode cX12_readSaying 106 = .ok (.pop, 1) := by decide +kernel
theorem dX12_readSaying_107 : decode cX12_readSaying 107 = .ok (.aload_n 0, 1) := by decide +kernel
theorem dX12_readSaying_108 : decode cX12_readSaying 108 = .ok (.getfield 125, 3) := by decide +kernel
theorem dX12_readSaying_111 : decode cX12_readSaying 111 = .ok (.iconst (-1), 1) := by decide +kernel
theorem dX12_readSaying_112 : decode cX12_readSaying 112 = .ok (.if_icmp .ne 7, 3) := by decide +kernel
theorem dX12_readSaying_115 : decode cX12_readSaying 115 = .ok (.iconst 1, 1) := by decide +kernel
theorem dX12_readSaying_116 : decode cX12_readSaying 116 = .ok (.goto 4, 3) := by decide +kernel
theorem dX12_readSaying_119 : decode cX12_readSaying 119 = .ok (.iconst 0, 1) := by decide +kernel
theorem dX12_readSaying_120 : decode cX12_readSaying 120 = .ok (.ireturn, 1) := by decide +kernel
theorem dX12_saying_0 : decode cX12_saying 0 = .ok (.aload_n 0, 1) := by decide +kernel
theorem dX12_saying_1 : decode cX12_saying 1 = .ok (.iconst 0, 1) := by decide +kernel
theorem dX12_saying_2 : decode cX12_saying 2 = .ok (.putfield 101, 3) := by decide +kernel
theorem dX12_saying_5 : decode cX12_saying 5 = .ok (.aload_n 0, 1) := by decide +kernel
theorem dX12_saying_6 : decode cX12_saying 6 = .ok (.getfield 170, 3) := by decide +kernel
theorem dX12_saying_9 : decode cX12_saying 9 = .ok (.bipush 20, 2) := by decide +kernel
theorem dX12_saying_11 : decode cX12_saying 11 = .ok (.if_icmp .eq 10, 3) := by decide +kernel
theorem dX12_saying_14 : decode cX12_saying 14 = .ok (.aload_n 0, 1) := by decide +kernel
theorem dX12_saying_15 : decode cX12_saying 15 = .ok (.invokevirtual 177, 3) := by decide +kernel
theorem dX12_saying_18 : decode cX12_saying 18 = .ok (.ifCond .ne 5, 3) := by decide +kernel
theorem dX12_saying_21 : decode cX12_saying 21 = .ok (.iconst (-1), 1) := by decide +kernel
theorem dX12_saying_22 : decode cX12_saying 22 = .ok (.ireturn, 1) := by decide +kernel
theorem dX12_saying_23 : decode cX12_saying 23 = .ok (.aload_n 0, 1) := by decide +kernel
theorem dX12_saying_24 : decode cX12_saying 24 = .ok (.iconst 0, 1) := by decide +kernel
theorem dX12_saying_25 : decode cX12_saying 25 = .ok (.putfield 105, 3) := by decide +kernel
theorem dX12_saying_28 : decode cX12_saying 28 = .ok (.aload_n 0, 1) := by decide +kernel
theorem dX12_saying_29 : decode cX12_saying 29 = .ok (.dup, 1) := by decide +kernel
theorem dX12_saying_30 : decode cX12_saying 30 = .ok (.getfield 170, 3) := by decide +kernel
theorem dX12_saying_33 : decode cX12_saying 33 = .ok (.iconst 1, 1) := by decide +kernel
theorem dX12_saying_34 : decode cX12_saying 34 = .ok (.iadd, 1) := by decide +kernel
theorem dX12_saying_35 : decode cX12_saying 35 = .ok (.putfield 170, 3) := by decide +kernel
theorem dX12_saying_38 : decode cX12_saying 38 = .ok (.aload_n 0, 1) := by decide +kernel
theorem dX12_saying_39 : decode cX12_saying 39 = .ok (.getfield 170, 3) := by decide +kernel
theorem dX12_saying_42 : decode cX12_saying 42 = .ok (.iconst 1, 1) := by decide +kernel
theorem dX12_saying_43 : decode cX12_saying 43 = .ok (.isub, 1) := by decide +kernel
theorem dX12_saying_44 : decode cX12_saying 44 = .ok (.ireturn, 1) := by decide +kernel
theorem dX12_isSaying_0 : decode cX12_isSaying 0 = .ok (.iload_n 1, 1) := by decide +kernel
theorem dX12_isSaying_1 : decode cX12_isSaying 1 = .ok (.ifCond .lt 15, 3) := by decide +kernel
theorem dX12_isSaying_4 : decode cX12_isSaying 4 = .ok (.iload_n 1, 1) := by decide +kernel
theorem dX12_isSaying_5 : decode cX12_isSaying 5 = .ok (.aload_n 0, 1) := by decide +kernel
theorem dX12_isSaying_6 : decode cX12_isSaying 6 = .ok (.getfield 170, 3) := by decide +kernel
theorem dX12_isSaying_9 : decode cX12_isSaying 9 = .ok (.if_icmp .ge 7, 3) := by decide +kernel
theorem dX12_isSaying_12 : decode cX12_isSaying 12 = .ok (.iconst 1, 1) := by decide +kernel
theorem dX12_isSaying_13 : decode cX12_isSaying 13 = .ok (.goto 4, 3) := by decide +kernel
theorem dX12_isSaying_16 : decode cX12_isSaying 16 = .ok (.iconst 0, 1) := by decide +kernel
theorem dX12_isSaying_17 : decode cX12_isSaying 17 = .ok (.ireturn, 1) := by decide +kernel
theorem dX12_rest_0 : decode cX12_rest 0 = .ok (.lload_n 0, 1) := by decide +kernel
theorem dX12_rest_1 : decode cX12_rest 1 = .ok (.lload_n 2, 1) := by decide +kernel
theorem dX12_rest_2 : decode cX12_rest 2 = .ok (.lrem, 1) := by decide +kernel
theorem dX12_rest_3 : decode cX12_rest 3 = .ok (.lstore 4, 2) := by decide +kernel
theorem dX12_rest_5 : decode cX12_rest 5 = .ok (.lload 4, 2) := by decide +kernel
theorem dX12_rest_7 : decode cX12_rest 7 = .ok (.lconst 0, 1) := by decide +kernel
theorem dX12_rest_8 : decode cX12_rest 8 = .ok (.lcmp, 1) := by decide +kernel
theorem dX12_rest_9 : decode cX12_rest 9 = .ok (.ifCond .ge 10, 3) := by decide +kernel
theorem dX12_rest_12 : decode cX12_rest 12 = .ok (.lload 4, 2) := by decide +kernel
theorem dX12_rest_14 : decode cX12_rest 14 = .ok (.lload_n 2, 1) := by decide +kernel
theorem dX12_rest_15 : decode cX12_rest 15 = .ok (.ladd, 1) := by decide +kernel
theorem dX12_rest_16 : decode cX12_rest 16 = .ok (.goto 5, 3) := by decide +kernel
theorem dX12_rest_19 : decode cX12_rest 19 = .ok (.lload 4, 2) := by decide +kernel
theorem dX12_rest_21 : decode cX12_rest 21 = .ok (.lreturn, 1) := by decide +kernel
theorem dX12_worthAt_0 : decode cX12_worthAt 0 = .ok (.iconst 0, 1) := by decide +kernel
theorem dX12_worthAt_1 : decode cX12_worthAt 1 = .ok (.istore 4, 2) := by decide +kernel
theorem dX12_worthAt_3 : decode cX12_worthAt 3 = .ok (.iconst 0, 1) := by decide +kernel
theorem dX12_worthAt_4 : decode cX12_worthAt 4 = .ok (.istore 5, 2) := by decide +kernel
theorem dX12_worthAt_6 : decode cX12_worthAt 6 = .ok (.iload 5, 2) := by decide +kernel
theorem dX12_worthAt_8 : decode cX12_worthAt 8 = .ok (.aload_n 0, 1) := by decide +kernel
theorem dX12_worthAt_9 : decode cX12_worthAt 9 = .ok (.getfield 20, 3) := by decide +kernel
theorem dX12_worthAt_12 : decode cX12_worthAt 12 = .ok (.iload_n 1, 1) := by decide +kernel
theorem dX12_worthAt_13 : decode cX12_worthAt 13 = .ok (.iaload, 1) := by decide +kernel
theorem dX12_worthAt_14 : decode cX12_worthAt 14 = .ok (.if_icmp .ge 152, 3) := by decide +kernel
theorem dX12_worthAt_17 : decode cX12_worthAt 17 = .ok (.aload_n 0, 1) := by decide +kernel
theorem dX12_worthAt_18 : decode cX12_worthAt 18 = .ok (.getfield 16, 3) := by decide +kernel
theorem dX12_worthAt_21 : decode cX12_worthAt 21 = .ok (.sipush 200, 3) := by decide +kernel
theorem dX12_worthAt_24 : decode cX12_worthAt 24 = .ok (.iload_n 1, 1) := by decide +kernel
theorem dX12_worthAt_25 : decode cX12_worthAt 25 = .ok (.imul, 1) := by decide +kernel
theorem dX12_worthAt_26 : decode cX12_worthAt 26 = .ok (.iload 5, 2) := by decide +kernel
theorem dX12_worthAt_28 : decode cX12_worthAt 28 = .ok (.iadd, 1) := by decide +kernel
theorem dX12_worthAt_29 : decode cX12_worthAt 29 = .ok (.iaload, 1) := by decide +kernel
theorem dX12_worthAt_30 : decode cX12_worthAt 30 = .ok (.istore 6, 2) := by decide +kernel
theorem dX12_worthAt_32 : decode cX12_worthAt 32 = .ok (.iload 6, 2) := by decide +kernel
theorem dX12_worthAt_34 : decode cX12_worthAt 34 = .ok (.bipush 6, 2) := by decide +kernel
theorem dX12_worthAt_36 : decode cX12_worthAt 36 = .ok (.if_icmp .ge 23, 3) := by decide +kernel
theorem dX12_worthAt_39 : decode cX12_worthAt 39 = .ok (.aload_n 0, 1) := by decide +kernel
theorem dX12_worthAt_40 : decode cX12_worthAt 40 = .ok (.getfield 32, 3) := by decide +kernel
theorem dX12_worthAt_43 : decode cX12_worthAt 43 = .ok (.iload 4, 2) := by decide +kernel
theorem dX12_worthAt_45 : decode cX12_worthAt 45 = .ok (.aload_n 0, 1) := by decide +kernel
theorem dX12_worthAt_46 : decode cX12_worthAt 46 = .ok (.getfield 36, 3) := by decide +kernel
theorem dX12_worthAt_49 : decode cX12_worthAt 49 = .ok (.iload 6, 2) := by decide +kernel
theorem dX12_worthAt_51 : decode cX12_worthAt 51 = .ok (.laload, 1) := by decide +kernel
theorem dX12_worthAt_52 : decode cX12_worthAt 52 = .ok (.lastore, 1) := by decide +kernel
theorem dX12_worthAt_53 : decode cX12_worthAt 53 = .ok (.iinc 4 1, 3) := by decide +kernel
theorem dX12_worthAt_56 : decode cX12_worthAt 56 = .ok (.goto 104, 3) := by decide +kernel
theorem dX12_worthAt_59 : decode cX12_worthAt 59 = .ok (.iload 6, 2) := by decide +kernel
theorem dX12_worthAt_61 : decode cX12_worthAt 61 = .ok (.bipush 6, 2) := by decide +kernel
theorem dX12_worthAt_63 : decode cX12_worthAt 63 = .ok (.if_icmp .ne 30, 3) := by decide +kernel
theorem dX12_worthAt_66 : decode cX12_worthAt 66 = .ok (.aload_n 0, 1) := by decide +kernel
theorem dX12_worthAt_67 : decode cX12_worthAt 67 = .ok (.getfield 32, 3) := by decide +kernel
theorem dX12_worthAt_70 : decode cX12_worthAt 70 = .ok (.iload 4, 2) := by decide +kernel
theorem dX12_worthAt_72 : decode cX12_worthAt 72 = .ok (.iconst 1, 1) := by decide +kernel
theorem dX12_worthAt_73 : decode cX12_worthAt 73 = .ok (.isub, 1) := by decide +kernel
theorem dX12_worthAt_74 : decode cX12_worthAt 74 = .ok (.lconst 1, 1) := by decide +kernel
theorem dX12_worthAt_75 : decode cX12_worthAt 75 = .ok (.aload_n 0, 1) := by decide +kernel
theorem dX12_worthAt_76 : decode cX12_worthAt 76 = .ok (.getfield 32, 3) := by decide +kernel
theorem dX12_worthAt_79 : decode cX12_worthAt 79 = .ok (.iload 4, 2) := by decide +kernel
theorem dX12_worthAt_81 : decode cX12_worthAt 81 = .ok (.iconst 1, 1) := by decide +kernel
theorem dX12_worthAt_82 : decode cX12_worthAt 82 = .ok (.isub, 1) := by decide +kernel
theorem dX12_worthAt_83 : decode cX12_worthAt 83 = .ok (.laload, 1) := by decide +kernel
theorem dX12_worthAt_84 : decode cX12_worthAt 84 = .ok (.lsub, 1) := by decide +kernel
theorem dX12_worthAt_85 : decode cX12_worthAt 85 = .ok (.lload_n 2, 1) := by decide +kernel
theorem dX12_worthAt_86 : decode cX12_worthAt 86 = .ok (.invokestatic 180, 3) := by decide +kernel
theorem dX12_worthAt_89 : decode cX12_worthAt 89 = .ok (.lastore, 1) := by decide +kernel
theorem dX12_worthAt_90 : decode cX12_worthAt 90 = .ok (.goto 70, 3) := by decide +kernel
theorem dX12_worthAt_93 : decode cX12_worthAt 93 = .ok (.aload_n 0, 1) := by decide +kernel
theorem dX12_worthAt_94 : decode cX12_worthAt 94 = .ok (.getfield 32, 3) := by decide +kernel
theorem dX12_worthAt_97 : decode cX12_worthAt 97 = .ok (.iload 4, 2) := by decide +kernel
theorem dX12_worthAt_99 : decode cX12_worthAt 99 = .ok (.iconst 2, 1) := by decide +kernel
theorem dX12_worthAt_100 : decode cX12_worthAt 100 = .ok (.isub, 1) := by decide +kernel
theorem dX12_worthAt_101 : decode cX12_worthAt 101 = .ok (.laload, 1) := by decide +kernel
theorem dX12_worthAt_102 : decode cX12_worthAt 102 = .ok (.lstore 7, 2) := by decide +kernel
theorem dX12_worthAt_104 : decode cX12_worthAt 104 = .ok (.aload_n 0, 1) := by decide +kernel
theorem dX12_worthAt_105 : decode cX12_worthAt 105 = .ok (.getfield 32, 3) := by decide +kernel
theorem dX12_worthAt_108 : decode cX12_worthAt 108 = .ok (.iload 4, 2) := by decide +kernel
theorem dX12_worthAt_110 : decode cX12_worthAt 110 = .ok (.iconst 1, 1) := by decide +kernel
theorem dX12_worthAt_111 : decode cX12_worthAt 111 = .ok (.isub, 1) := by decide +kernel
theorem dX12_worthAt_112 : decode cX12_worthAt 112 = .ok (.laload, 1) := by decide +kernel
theorem dX12_worthAt_113 : decode cX12_worthAt 113 = .ok (.lstore 9, 2) := by decide +kernel
theorem dX12_worthAt_115 : decode cX12_worthAt 115 = .ok (.iinc 4 (-1), 3) := by decide +kernel
theorem dX12_worthAt_118 : decode cX12_worthAt 118 = .ok (.lload 7, 2) := by decide +kernel
theorem dX12_worthAt_120 : decode cX12_worthAt 120 = .ok (.lload 9, 2) := by decide +kernel
theorem dX12_worthAt_122 : decode cX12_worthAt 122 = .ok (.lmul, 1) := by decide +kernel
theorem dX12_worthAt_123 : decode cX12_worthAt 123 = .ok (.lload_n 2, 1) := by decide +kernel
theorem dX12_worthAt_124 : decode cX12_worthAt 124 = .ok (.lrem, 1) := by decide +kernel
theorem dX12_worthAt_125 : decode cX12_worthAt 125 = .ok (.lstore 11, 2) := by decide +kernel
theorem dX12_worthAt_127 : decode cX12_worthAt 127 = .ok (.aload_n 0, 1) := by decide +kernel
theorem dX12_worthAt_128 : decode cX12_worthAt 128 = .ok (.getfield 32, 3) := by decide +kernel
theorem dX12_worthAt_131 : decode cX12_worthAt 131 = .ok (.iload 4, 2) := by decide +kernel
theorem dX12_worthAt_133 : decode cX12_worthAt 133 = .ok (.iconst 1, 1) := by decide +kernel
theorem dX12_worthAt_134 : decode cX12_worthAt 134 = .ok (.isub, 1) := by decide +kernel
theorem dX12_worthAt_135 : decode cX12_worthAt 135 = .ok (.iload 6, 2) := by decide +kernel
theorem dX12_worthAt_137 : decode cX12_worthAt 137 = .ok (.bipush 7, 2) := by decide +kernel
theorem dX12_worthAt_139 : decode cX12_worthAt 139 = .ok (.if_icmp .ne 8, 3) := by decide +kernel
theorem dX12_worthAt_142 : decode cX12_worthAt 142 = .ok (.lload 11, 2) := by decide +kernel
theorem dX12_worthAt_144 : decode cX12_worthAt 144 = .ok (.goto 15, 3) := by decide +kernel
theorem dX12_worthAt_147 : decode cX12_worthAt 147 = .ok (.lload 7, 2) := by decide +kernel
theorem dX12_worthAt_149 : decode cX12_worthAt 149 = .ok (.lload 9, 2) := by decide +kernel
theorem dX12_worthAt_151 : decode cX12_worthAt 151 = .ok (.ladd, 1) := by decide +kernel
theorem dX12_worthAt_152 : decode cX12_worthAt 152 = .ok (.lload 11, 2) := by decide +kernel
theorem dX12_worthAt_154 : decode cX12_worthAt 154 = .ok (.lsub, 1) := by decide +kernel
theorem dX12_worthAt_155 : decode cX12_worthAt 155 = .ok (.lload_n 2, 1) := by decide +kernel
theorem dX12_worthAt_156 : decode cX12_worthAt 156 = .ok (.invokestatic 180, 3) := by decide +kernel
theorem dX12_worthAt_159 : decode cX12_worthAt 159 = .ok (.lastore, 1) := by decide +kernel
theorem dX12_worthAt_160 : decode cX12_worthAt 160 = .ok (.iinc 5 1, 3) := by decide +kernel
theorem dX12_worthAt_163 : decode cX12_worthAt 163 = .ok (.goto (-157), 3) := by decide +kernel
theorem dX12_worthAt_166 : decode cX12_worthAt 166 = .ok (.aload_n 0, 1) := by decide +kernel
theorem dX12_worthAt_167 : decode cX12_worthAt 167 = .ok (.getfield 32, 3) := by decide +kernel
theorem dX12_worthAt_170 : decode cX12_worthAt 170 = .ok (.iconst 0, 1) := by decide +kernel
theorem dX12_worthAt_171 : decode cX12_worthAt 171 = .ok (.laload, 1) := by decide +kernel
theorem dX12_worthAt_172 : decode cX12_worthAt 172 = .ok (.lreturn, 1) := by decide +kernel
theorem dX12_sumFrom_0 : decode cX12_sumFrom 0 = .ok (.iload_n 2, 1) := by decide +kernel
theorem dX12_sumFrom_1 : decode cX12_sumFrom 1 = .ok (.aload_n 0, 1) := by decide +kernel
theorem dX12_sumFrom_2 : decode cX12_sumFrom 2 = .ok (.getfield 23, 3) := by decide +kernel
theorem dX12_sumFrom_5 : decode cX12_sumFrom 5 = .ok (.iload_n 1, 1) := by decide +kernel
theorem dX12_sumFrom_6 : decode cX12_sumFrom 6 = .ok (.iaload, 1) := by decide +kernel
theorem dX12_sumFrom_7 : decode cX12_sumFrom 7 = .ok (.if_icmp .lt 10, 3) := by decide +kernel
theorem dX12_sumFrom_10 : decode cX12_sumFrom 10 = .ok (.aload_n 0, 1) := by decide +kernel
theorem dX12_sumFrom_11 : decode cX12_sumFrom 11 = .ok (.iload_n 1, 1) := by decide +kernel
theorem dX12_sumFrom_12 : decode cX12_sumFrom 12 = .ok (.lload_n 3, 1) := by decide +kernel
theorem dX12_sumFrom_13 : decode cX12_sumFrom 13 = .ok (.invokevirtual 184, 3) := by decide +kernel
theorem dX12_sumFrom_16 : decode cX12_sumFrom 16 = .ok (.lreturn, 1) := by decide +kernel
theorem dX12_sumFrom_17 : decode cX12_sumFrom 17 = .ok (.aload_n 0, 1) := by decide +kernel
theorem dX12_sumFrom_18 : decode cX12_sumFrom 18 = .ok (.getfield 36, 3) := by decide +kernel
theorem dX12_sumFrom_21 : decode cX12_sumFrom 21 = .ok (.iload_n 2, 1) := by decide +kernel
theorem dX12_sumFrom_22 : decode cX12_sumFrom 22 = .ok (.lconst 0, 1) := by decide +kernel
theorem dX12_sumFrom_23 : decode cX12_sumFrom 23 = .ok (.lastore, 1) := by decide +kernel
theorem dX12_sumFrom_24 : decode cX12_sumFrom 24 = .ok (.aload_n 0, 1) := by decide +kernel
theorem dX12_sumFrom_25 : decode cX12_sumFrom 25 = .ok (.iload_n 1, 1) := by decide +kernel
theorem dX12_sumFrom_26 : decode cX12_sumFrom 26 = .ok (.iload_n 2, 1) := by decide +kernel
theorem dX12_sumFrom_27 : decode cX12_sumFrom 27 = .ok (.iconst 1, 1) := by decide +kernel
theorem dX12_sumFrom_28 : decode cX12_sumFrom 28 = .ok (.iadd, 1) := by decide +kernel
theorem dX12_sumFrom_29 : decode cX12_sumFrom 29 = .ok (.lload_n 3, 1) := by decide +kernel
theorem dX12_sumFrom_30 : decode cX12_sumFrom 30 = .ok (.invokevirtual 188, 3) := by decide +kernel
theorem dX12_sumFrom_33 : decode cX12_sumFrom 33 = .ok (.lstore 5, 2) := by decide +kernel
theorem dX12_sumFrom_35 : decode cX12_sumFrom 35 = .ok (.aload_n 0, 1) := by decide +kernel
theorem dX12_sumFrom_36 : decode cX12_sumFrom 36 = .ok (.getfield 36, 3) := by decide +kernel
theorem dX12_sumFrom_39 : decode cX12_sumFrom 39 = .ok (.iload_n 2, 1) := by decide +kernel
theorem dX12_sumFrom_40 : decode cX12_sumFrom 40 = .ok (.lconst 1, 1) := by decide +kernel
theorem dX12_sumFrom_41 : decode cX12_sumFrom 41 = .ok (.lastore, 1) := by decide +kernel
theorem dX12_sumFrom_42 : decode cX12_sumFrom 42 = .ok (.lload 5, 2) := by decide +kernel
theorem dX12_sumFrom_44 : decode cX12_sumFrom 44 = .ok (.aload_n 0, 1) := by decide +kernel
theorem dX12_sumFrom_45 : decode cX12_sumFrom 45 = .ok (.iload_n 1, 1) := by decide +kernel
theorem dX12_sumFrom_46 : decode cX12_sumFrom 46 = .ok (.iload_n 2, 1) := by decide +kernel
theorem dX12_sumFrom_47 : decode cX12_sumFrom 47 = .ok (.iconst 1, 1) := by decide +kernel
theorem dX12_sumFrom_48 : decode cX12_sumFrom 48 = .ok (.iadd, 1) := by decide +kernel
theorem dX12_sumFrom_49 : decode cX12_sumFrom 49 = .ok (.lload_n 3, 1) := by decide +kernel
theorem dX12_sumFrom_50 : decode cX12_sumFrom 50 = .ok (.invokevirtual 188, 3) := by decide +kernel
theorem dX12_sumFrom_53 : decode cX12_sumFrom 53 = .ok (.ladd, 1) := by decide +kernel
theorem dX12_sumFrom_54 : decode cX12_sumFrom 54 = .ok (.lload_n 3, 1) := by decide +kernel
theorem dX12_sumFrom_55 : decode cX12_sumFrom 55 = .ok (.lrem, 1) := by decide +kernel
theorem dX12_sumFrom_56 : decode cX12_sumFrom 56 = .ok (.lreturn, 1) := by decide +kernel
theorem dX12_countOf_0 : decode cX12_countOf 0 = .ok (.aload_n 0, 1) := by decide +kernel
theorem dX12_countOf_1 : decode cX12_countOf 1 = .ok (.iload_n 1, 1) := by decide +kernel
theorem dX12_countOf_2 : decode cX12_countOf 2 = .ok (.iconst 0, 1) := by decide +kernel
theorem dX12_countOf_3 : decode cX12_countOf 3 = .ok (.ldc2_w 192, 3) := by decide +kernel
theorem dX12_countOf_6 : decode cX12_countOf 6 = .ok (.invokevirtual 188, 3) := by decide +kernel
theorem dX12_countOf_9 : decode cX12_countOf 9 = .ok (.l2i, 1) := by decide +kernel
theorem dX12_countOf_10 : decode cX12_countOf 10 = .ok (.ireturn, 1) := by decide +kernel
theorem dX12_said_0 : decode cX12_said 0 = .ok (.aload_n 0, 1) := by decide +kernel
theorem dX12_said_1 : decode cX12_said 1 = .ok (.iconst 0, 1) := by decide +kernel
theorem dX12_said_2 : decode cX12_said 2 = .ok (.putfield 101, 3) := by decide +kernel
theorem dX12_said_5 : decode cX12_said 5 = .ok (.aload_n 0, 1) := by decide +kernel
theorem dX12_said_6 : decode cX12_said 6 = .ok (.iload_n 1, 1) := by decide +kernel
theorem dX12_said_7 : decode cX12_said 7 = .ok (.invokevirtual 194, 3) := by decide +kernel
theorem dX12_said_10 : decode cX12_said 10 = .ok (.ifCond .eq 15, 3) := by decide +kernel
theorem dX12_said_13 : decode cX12_said 13 = .ok (.iload_n 2, 1) := by decide +kernel
theorem dX12_said_14 : decode cX12_said 14 = .ok (.i2l, 1) := by decide +kernel
theorem dX12_said_15 : decode cX12_said 15 = .ok (.lconst 0, 1) := by decide +kernel
theorem dX12_said_16 : decode cX12_said 16 = .ok (.ldc2_w 197, 3) := by decide +kernel
theorem dX12_said_19 : decode cX12_said 19 = .ok (.invokestatic 199, 3) := by decide +kernel
theorem dX12_said_22 : decode cX12_said 22 = .ok (.ifCond .ne 5, 3) := by decide +kernel
theorem dX12_said_25 : decode cX12_said 25 = .ok (.iconst (-1), 1) := by decide +kernel
theorem dX12_said_26 : decode cX12_said 26 = .ok (.ireturn, 1) := by decide +kernel
theorem dX12_said_27 : decode cX12_said 27 = .ok (.iload_n 2, 1) := by decide +kernel
theorem dX12_said_28 : decode cX12_said 28 = .ok (.ifCond .ne 12, 3) := by decide +kernel
theorem dX12_said_31 : decode cX12_said 31 = .ok (.aload_n 0, 1) := by decide +kernel
theorem dX12_said_32 : decode cX12_said 32 = .ok (.getfield 23, 3) := by decide +kernel
theorem dX12_said_35 : decode cX12_said 35 = .ok (.iload_n 1, 1) := by decide +kernel
theorem dX12_said_36 : decode cX12_said 36 = .ok (.iaload, 1) := by decide +kernel
theorem dX12_said_37 : decode cX12_said 37 = .ok (.goto 43, 3) := by decide +kernel
theorem dX12_said_40 : decode cX12_said 40 = .ok (.iload_n 2, 1) := by decide +kernel
theorem dX12_said_41 : decode cX12_said 41 = .ok (.iconst 1, 1) := by decide +kernel
theorem dX12_said_42 : decode cX12_said 42 = .ok (.if_icmp .ne 12, 3) := by decide +kernel
theorem dX12_said_45 : decode cX12_said 45 = .ok (.aload_n 0, 1) := by decide +kernel
theorem dX12_said_46 : decode cX12_said 46 = .ok (.getfield 29, 3) := by decide +kernel
theorem dX12_said_49 : decode cX12_said 49 = .ok (.iload_n 1, 1) := by decide +kernel
theorem dX12_said_50 : decode cX12_said 50 = .ok (.iaload, 1) := by decide +kernel
theorem dX12_said_51 : decode cX12_said 51 = .ok (.goto 29, 3) := by decide +kernel
theorem dX12_said_54 : decode cX12_said 54 = .ok (.iload_n 2, 1) := by decide +kernel
theorem dX12_said_55 : decode cX12_said 55 = .ok (.iconst 2, 1) := by decide +kernel
theorem dX12_said_56 : decode cX12_said 56 = .ok (.if_icmp .ne 11, 3) := by decide +kernel
theorem dX12_said_59 : decode cX12_said 59 = .ok (.aload_n 0, 1) := by decide +kernel
theorem dX12_said_60 : decode cX12_said 60 = .ok (.iload_n 1, 1) := by decide +kernel
theorem dX12_said_61 : decode cX12_said 61 = .ok (.invokevirtual 203, 3) := by decide +kernel
theorem dX12_said_64 : decode cX12_said 64 = .ok (.goto 16, 3) := by decide +kernel
theorem dX12_said_67 : decode cX12_said 67 = .ok (.aload_n 0, 1) := by decide +kernel
theorem dX12_said_68 : decode cX12_said 68 = .ok (.getfield 26, 3) := by decide +kernel
theorem dX12_said_71 : decode cX12_said 71 = .ok (.bipush 6, 2) := by decide +kernel
theorem dX12_said_73 : decode cX12_said 73 = .ok (.iload_n 1, 1) := by decide +kernel
theorem dX12_said_74 : decode cX12_said 74 = .ok (.imul, 1) := by decide +kernel
theorem dX12_said_75 : decode cX12_said 75 = .ok (.iload_n 2, 1) := by decide +kernel
theorem dX12_said_76 : decode cX12_said 76 = .ok (.iadd, 1) := by decide +kernel
theorem dX12_said_77 : decode cX12_said 77 = .ok (.iconst 3, 1) := by decide +kernel
theorem dX12_said_78 : decode cX12_said 78 = .ok (.isub, 1) := by decide +kernel
theorem dX12_said_79 : decode cX12_said 79 = .ok (.iaload, 1) := by decide +kernel
theorem dX12_said_80 : decode cX12_said 80 = .ok (.ireturn, 1) := by decide +kernel
theorem dX12_isTrue_0 : decode cX12_isTrue 0 = .ok (.iconst 0, 1) := by decide +kernel
theorem dX12_isTrue_1 : decode cX12_isTrue 1 = .ok (.istore_n 3, 1) := by decide +kernel
theorem dX12_isTrue_2 : decode cX12_isTrue 2 = .ok (.iload_n 3, 1) := by decide +kernel
theorem dX12_isTrue_3 : decode cX12_isTrue 3 = .ok (.bipush 6, 2) := by decide +kernel
theorem dX12_isTrue_5 : decode cX12_isTrue 5 = .ok (.if_icmp .ge 21, 3) := by decide +kernel
theorem dX12_isTrue_8 : decode cX12_isTrue 8 = .ok (.aload_n 0, 1) := by decide +kernel
theorem dX12_isTrue_9 : decode cX12_isTrue 9 = .ok (.getfield 36, 3) := by decide +kernel
theorem dX12_isTrue_12 : decode cX12_isTrue 12 = .ok (.iload_n 3, 1) := by decide +kernel
theorem dX12_isTrue_13 : decode cX12_isTrue 13 = .ok (.iload_n 2, 1) := by decide +kernel
theorem dX12_isTrue_14 : decode cX12_isTrue 14 = .ok (.iload_n 3, 1) := by decide +kernel
theorem dX12_isTrue_15 : decode cX12_isTrue 15 = .ok (.ishr, 1) := by decide +kernel
theorem dX12_isTrue_16 : decode cX12_isTrue 16 = .ok (.iconst 1, 1) := by decide +kernel
theorem dX12_isTrue_17 : decode cX12_isTrue 17 = .ok (.iand, 1) := by decide +kernel
theorem dX12_isTrue_18 : decode cX12_isTrue 18 = .ok (.i2l, 1) := by decide +kernel
theorem dX12_isTrue_19 : decode cX12_isTrue 19 = .ok (.lastore, 1) := by decide +kernel
theorem dX12_isTrue_20 : decode cX12_isTrue 20 = .ok (.iinc 3 1, 3) := by decide +kernel
theorem dX12_isTrue_23 : decode cX12_isTrue 23 = .ok (.goto (-21), 3) := by decide +kernel
theorem dX12_isTrue_26 : decode cX12_isTrue 26 = .ok (.aload_n 0, 1) := by decide +kernel
theorem dX12_isTrue_27 : decode cX12_isTrue 27 = .ok (.iload_n 1, 1) := by decide +kernel
theorem dX12_isTrue_28 : decode cX12_isTrue 28 = .ok (.ldc2_w 192, 3) := by decide +kernel
theorem dX12_isTrue_31 : decode cX12_isTrue 31 = .ok (.invokevirtual 184, 3) := by decide +kernel
theorem dX12_isTrue_34 : decode cX12_isTrue 34 = .ok (.lconst 1, 1) := by decide +kernel
theorem dX12_isTrue_35 : decode cX12_isTrue 35 = .ok (.lcmp, 1) := by decide +kernel
theorem dX12_isTrue_36 : decode cX12_isTrue 36 = .ok (.ifCond .ne 7, 3) := by decide +kernel
theorem dX12_isTrue_39 : decode cX12_isTrue 39 = .ok (.iconst 1, 1) := by decide +kernel
theorem dX12_isTrue_40 : decode cX12_isTrue 40 = .ok (.goto 4, 3) := by decide +kernel
theorem dX12_isTrue_43 : decode cX12_isTrue 43 = .ok (.iconst 0, 1) := by decide +kernel
theorem dX12_isTrue_44 : decode cX12_isTrue 44 = .ok (.ireturn, 1) := by decide +kernel
theorem dX12_truth_0 : decode cX12_truth 0 = .ok (.aload_n 0, 1) := by decide +kernel
theorem dX12_truth_1 : decode cX12_truth 1 = .ok (.iconst 0, 1) := by decide +kernel
theorem dX12_truth_2 : decode cX12_truth 2 = .ok (.putfield 101, 3) := by decide +kernel
theorem dX12_truth_5 : decode cX12_truth 5 = .ok (.aload_n 0, 1) := by decide +kernel
theorem dX12_truth_6 : decode cX12_truth 6 = .ok (.iload_n 1, 1) := by decide +kernel
theorem dX12_truth_7 : decode cX12_truth 7 = .ok (.invokevirtual 194, 3) := by decide +kernel
theorem dX12_truth_10 : decode cX12_truth 10 = .ok (.ifCond .eq 15, 3) := by decide +kernel
theorem dX12_truth_13 : decode cX12_truth 13 = .ok (.iload_n 2, 1) := by decide +kernel
theorem dX12_truth_14 : decode cX12_truth 14 = .ok (.i2l, 1) := by decide +kernel
theorem dX12_truth_15 : decode cX12_truth 15 = .ok (.lconst 0, 1) := by decide +kernel
theorem dX12_truth_16 : decode cX12_truth 16 = .ok (.ldc2_w 206, 3) := by decide +kernel
theorem dX12_truth_19 : decode cX12_truth 19 = .ok (.invokestatic 199, 3) := by decide +kernel
theorem dX12_truth_22 : decode cX12_truth 22 = .ok (.ifCond .ne 7, 3) := by decide +kernel
theorem dX12_truth_25 : decode cX12_truth 25 = .ok (.iconst (-1), 1) := by decide +kernel
theorem dX12_truth_26 : decode cX12_truth 26 = .ok (.goto 17, 3) := by decide +kernel
theorem dX12_truth_29 : decode cX12_truth 29 = .ok (.aload_n 0, 1) := by decide +kernel
theorem dX12_truth_30 : decode cX12_truth 30 = .ok (.iload_n 1, 1) := by decide +kernel
theorem dX12_truth_31 : decode cX12_truth 31 = .ok (.iload_n 2, 1) := by decide +kernel
theorem dX12_truth_32 : decode cX12_truth 32 = .ok (.invokevirtual 208, 3) := by decide +kernel
theorem dX12_truth_35 : decode cX12_truth 35 = .ok (.ifCond .eq 7, 3) := by decide +kernel
theorem dX12_truth_38 : decode cX12_truth 38 = .ok (.iconst 1, 1) := by decide +kernel
theorem dX12_truth_39 : decode cX12_truth 39 = .ok (.goto 4, 3) := by decide +kernel
theorem dX12_truth_42 : decode cX12_truth 42 = .ok (.iconst 0, 1) := by decide +kernel
theorem dX12_truth_43 : decode cX12_truth 43 = .ok (.ireturn, 1) := by decide +kernel
theorem dX12_lay_0 : decode cX12_lay 0 = .ok (.aload_n 0, 1) := by decide +kernel
theorem dX12_lay_1 : decode cX12_lay 1 = .ok (.iconst 0, 1) := by decide +kernel
theorem dX12_lay_2 : decode cX12_lay 2 = .ok (.putfield 101, 3) := by decide +kernel
theorem dX12_lay_5 : decode cX12_lay 5 = .ok (.iload_n 1, 1) := by decide +kernel
theorem dX12_lay_6 : decode cX12_lay 6 = .ok (.ifCond .lt 12, 3) := by decide +kernel
theorem dX12_lay_9 : decode cX12_lay 9 = .ok (.aload_n 0, 1) := by decide +kernel
theorem dX12_lay_10 : decode cX12_lay 10 = .ok (.getfield 212, 3) := by decide +kernel
theorem dX12_lay_13 : decode cX12_lay 13 = .ok (.bipush 6, 2) := by decide +kernel
theorem dX12_lay_15 : decode cX12_lay 15 = .ok (.if_icmp .ne 5, 3) := by decide +kernel
theorem dX12_lay_18 : decode cX12_lay 18 = .ok (.iconst (-1), 1) := by decide +kernel
theorem dX12_lay_19 : decode cX12_lay 19 = .ok (.ireturn, 1) := by decide +kernel
theorem dX12_lay_20 : decode cX12_lay 20 = .ok (.aload_n 0, 1) := by decide +kernel
theorem dX12_lay_21 : decode cX12_lay 21 = .ok (.getfield 39, 3) := by decide +kernel
theorem dX12_lay_24 : decode cX12_lay 24 = .ok (.aload_n 0, 1) := by decide +kernel
theorem dX12_lay_25 : decode cX12_lay 25 = .ok (.getfield 212, 3) := by decide +kernel
theorem dX12_lay_28 : decode cX12_lay 28 = .ok (.iload_n 1, 1) := by decide +kernel
theorem dX12_lay_29 : decode cX12_lay 29 = .ok (.iastore, 1) := by decide +kernel
theorem dX12_lay_30 : decode cX12_lay 30 = .ok (.aload_n 0, 1) := by decide +kernel
theorem dX12_lay_31 : decode cX12_lay 31 = .ok (.dup, 1) := by decide +kernel
theorem dX12_lay_32 : decode cX12_lay 32 = .ok (.getfield 212, 3) := by decide +kernel
theorem dX12_lay_35 : decode cX12_lay 35 = .ok (.iconst 1, 1) := by decide +kernel
theorem dX12_lay_36 : decode cX12_lay 36 = .ok (.iadd, 1) := by decide +kernel
theorem dX12_lay_37 : decode cX12_lay 37 = .ok (.putfield 212, 3) := by decide +kernel
theorem dX12_lay_40 : decode cX12_lay 40 = .ok (.aload_n 0, 1) := by decide +kernel
theorem dX12_lay_41 : decode cX12_lay 41 = .ok (.getfield 212, 3) := by decide +kernel
theorem dX12_lay_44 : decode cX12_lay 44 = .ok (.iconst 1, 1) := by decide +kernel
theorem dX12_lay_45 : decode cX12_lay 45 = .ok (.isub, 1) := by decide +kernel
theorem dX12_lay_46 : decode cX12_lay 46 = .ok (.ireturn, 1) := by decide +kernel
theorem dX12_clear_0 : decode cX12_clear 0 = .ok (.aload_n 0, 1) := by decide +kernel
theorem dX12_clear_1 : decode cX12_clear 1 = .ok (.iconst 0, 1) := by decide +kernel
theorem dX12_clear_2 : decode cX12_clear 2 = .ok (.putfield 101, 3) := by decide +kernel
theorem dX12_clear_5 : decode cX12_clear 5 = .ok (.aload_n 0, 1) := by decide +kernel
theorem dX12_clear_6 : decode cX12_clear 6 = .ok (.getfield 212, 3) := by decide +kernel
theorem dX12_clear_9 : decode cX12_clear 9 = .ok (.istore_n 1, 1) := by decide +kernel
theorem dX12_clear_10 : decode cX12_clear 10 = .ok (.aload_n 0, 1) := by decide +kernel
theorem dX12_clear_11 : decode cX12_clear 11 = .ok (.iconst 0, 1) := by decide +kernel
theorem dX12_clear_12 : decode cX12_clear 12 = .ok (.putfield 212, 3) := by decide +kernel
theorem dX12_clear_15 : decode cX12_clear 15 = .ok (.iload_n 1, 1) := by decide +kernel
theorem dX12_clear_16 : decode cX12_clear 16 = .ok (.ireturn, 1) := by decide +kernel
theorem dX12_isPrime_0 : decode cX12_isPrime 0 = .ok (.iload_n 0, 1) := by decide +kernel
theorem dX12_isPrime_1 : decode cX12_isPrime 1 = .ok (.iconst 2, 1) := by decide +kernel
theorem dX12_isPrime_2 : decode cX12_isPrime 2 = .ok (.if_icmp .ge 5, 3) := by decide +kernel
theorem dX12_isPrime_5 : decode cX12_isPrime 5 = .ok (.iconst 0, 1) := by decide +kernel
theorem dX12_isPrime_6 : decode cX12_isPrime 6 = .ok (.ireturn, 1) := by decide +kernel
theorem dX12_isPrime_7 : decode cX12_isPrime 7 = .ok (.ldc2_w 215, 3) := by decide +kernel
theorem dX12_isPrime_10 : decode cX12_isPrime 10 = .ok (.lstore_n 1, 1) := by decide +kernel
theorem dX12_isPrime_11 : decode cX12_isPrime 11 = .ok (.lload_n 1, 1) := by decide +kernel
theorem dX12_isPrime_12 : decode cX12_isPrime 12 = .ok (.lload_n 1, 1) := by decide +kernel
theorem dX12_isPrime_13 : decode cX12_isPrime 13 = .ok (.lmul, 1) := by decide +kernel
theorem dX12_isPrime_14 : decode cX12_isPrime 14 = .ok (.iload_n 0, 1) := by decide +kernel
theorem dX12_isPrime_15 : decode cX12_isPrime 15 = .ok (.i2l, 1) := by decide +kernel
theorem dX12_isPrime_16 : decode cX12_isPrime 16 = .ok (.lcmp, 1) := by decide +kernel
theorem dX12_isPrime_17 : decode cX12_isPrime 17 = .ok (.ifCond .gt 21, 3) := by decide +kernel
theorem dX12_isPrime_20 : decode cX12_isPrime 20 = .ok (.iload_n 0, 1) := by decide +kernel
theorem dX12_isPrime_21 : decode cX12_isPrime 21 = .ok (.i2l, 1) := by decide +kernel
theorem dX12_isPrime_22 : decode cX12_isPrime 22 = .ok (.lload_n 1, 1) := by decide +kernel
theorem dX12_isPrime_23 : decode cX12_isPrime 23 = .ok (.lrem, 1) := by decide +kernel
theorem dX12_isPrime_24 : decode cX12_isPrime 24 = .ok (.lconst 0, 1) := by decide +kernel
theorem dX12_isPrime_25 : decode cX12_isPrime 25 = .ok (.lcmp, 1) := by decide +kernel
theorem dX12_isPrime_26 : decode cX12_isPrime 26 = .ok (.ifCond .ne 5, 3) := by decide +kernel
theorem dX12_isPrime_29 : decode cX12_isPrime 29 = .ok (.iconst 0, 1) := by decide +kernel
theorem dX12_isPrime_30 : decode cX12_isPrime 30 = .ok (.ireturn, 1) := by decide +kernel
theorem dX12_isPrime_31 : decode cX12_isPrime 31 = .ok (.lload_n 1, 1) := by decide +kernel
theorem dX12_isPrime_32 : decode cX12_isPrime 32 = .ok (.lconst 1, 1) := by decide +kernel
theorem dX12_isPrime_33 : decode cX12_isPrime 33 = .ok (.ladd, 1) := by decide +kernel
theorem dX12_isPrime_34 : decode cX12_isPrime 34 = .ok (.lstore_n 1, 1) := by decide +kernel
theorem dX12_isPrime_35 : decode cX12_isPrime 35 = .ok (.goto (-24), 3) := by decide +kernel
theorem dX12_isPrime_38 : decode cX12_isPrime 38 = .ok (.iconst 1, 1) := by decide +kernel
theorem dX12_isPrime_39 : decode cX12_isPrime 39 = .ok (.ireturn, 1) := by decide +kernel
theorem dX12_isRing_0 : decode cX12_isRing 0 = .ok (.iload_n 0, 1) := by decide +kernel
theorem dX12_isRing_1 : decode cX12_isRing 1 = .ok (.i2l, 1) := by decide +kernel
theorem dX12_isRing_2 : decode cX12_isRing 2 = .ok (.ldc2_w 217, 3) := by decide +kernel
theorem dX12_isRing_5 : decode cX12_isRing 5 = .ok (.ldc2_w 192, 3) := by decide +kernel
theorem dX12_isRing_8 : decode cX12_isRing 8 = .ok (.invokestatic 199, 3) := by decide +kernel
theorem dX12_isRing_11 : decode cX12_isRing 11 = .ok (.ifCond .eq 14, 3) := by decide +kernel
theorem dX12_isRing_14 : decode cX12_isRing 14 = .ok (.iload_n 0, 1) := by decide +kernel
theorem dX12_isRing_15 : decode cX12_isRing 15 = .ok (.invokestatic 219, 3) := by decide +kernel
theorem dX12_isRing_18 : decode cX12_isRing 18 = .ok (.ifCond .eq 7, 3) := by decide +kernel
theorem dX12_isRing_21 : decode cX12_isRing 21 = .ok (.iconst 1, 1) := by decide +kernel
theorem dX12_isRing_22 : decode cX12_isRing 22 = .ok (.goto 4, 3) := by decide +kernel
theorem dX12_isRing_25 : decode cX12_isRing 25 = .ok (.iconst 0, 1) := by decide +kernel
theorem dX12_isRing_26 : decode cX12_isRing 26 = .ok (.ireturn, 1) := by decide +kernel
theorem dX12_prime_0 : decode cX12_prime 0 = .ok (.aload_n 0, 1) := by decide +kernel
theorem dX12_prime_1 : decode cX12_prime 1 = .ok (.iconst 0, 1) := by decide +kernel
theorem dX12_prime_2 : decode cX12_prime 2 = .ok (.putfield 101, 3) := by decide +kernel
theorem dX12_prime_5 : decode cX12_prime 5 = .ok (.iload_n 1, 1) := by decide +kernel
theorem dX12_prime_6 : decode cX12_prime 6 = .ok (.i2l, 1) := by decide +kernel
theorem dX12_prime_7 : decode cX12_prime 7 = .ok (.lconst 0, 1) := by decide +kernel
theorem dX12_prime_8 : decode cX12_prime 8 = .ok (.ldc2_w 192, 3) := by decide +kernel
theorem dX12_prime_11 : decode cX12_prime 11 = .ok (.invokestatic 199, 3) := by decide +kernel
theorem dX12_prime_14 : decode cX12_prime 14 = .ok (.ifCond .eq 14, 3) := by decide +kernel
theorem dX12_prime_17 : decode cX12_prime 17 = .ok (.iload_n 1, 1) := by decide +kernel
theorem dX12_prime_18 : decode cX12_prime 18 = .ok (.invokestatic 219, 3) := by decide +kernel
theorem dX12_prime_21 : decode cX12_prime 21 = .ok (.ifCond .eq 7, 3) := by decide +kernel
theorem dX12_prime_24 : decode cX12_prime 24 = .ok (.iconst 1, 1) := by decide +kernel
theorem dX12_prime_25 : decode cX12_prime 25 = .ok (.goto 4, 3) := by decide +kernel
theorem dX12_prime_28 : decode cX12_prime 28 = .ok (.iconst 0, 1) := by decide +kernel
theorem dX12_prime_29 : decode cX12_prime 29 = .ok (.ireturn, 1) := by decide +kernel
theorem dX12_layPoint_0 : decode cX12_layPoint 0 = .ok (.iconst 0, 1) := by decide +kernel
theorem dX12_layPoint_1 : decode cX12_layPoint 1 = .ok (.istore_n 2, 1) := by decide +kernel
theorem dX12_layPoint_2 : decode cX12_layPoint 2 = .ok (.iload_n 2, 1) := by decide +kernel
theorem dX12_layPoint_3 : decode cX12_layPoint 3 = .ok (.aload_n 0, 1) := by decide +kernel
theorem dX12_layPoint_4 : decode cX12_layPoint 4 = .ok (.getfield 212, 3) := by decide +kernel
theorem dX12_layPoint_7 : decode cX12_layPoint 7 = .ok (.if_icmp .ge 24, 3) := by decide +kernel
theorem dX12_layPoint_10 : decode cX12_layPoint 10 = .ok (.aload_n 0, 1) := by decide +kernel
theorem dX12_layPoint_11 : decode cX12_layPoint 11 = .ok (.getfield 36, 3) := by decide +kernel
theorem dX12_layPoint_14 : decode cX12_layPoint 14 = .ok (.iload_n 2, 1) := by decide +kernel
theorem dX12_layPoint_15 : decode cX12_layPoint 15 = .ok (.aload_n 0, 1) := by decide +kernel
theorem dX12_layPoint_16 : decode cX12_layPoint 16 = .ok (.getfield 39, 3) := by decide +kernel
theorem dX12_layPoint_19 : decode cX12_layPoint 19 = .ok (.iload_n 2, 1) := by decide +kernel
theorem dX12_layPoint_20 : decode cX12_layPoint 20 = .ok (.iaload, 1) := by decide +kernel
theorem dX12_layPoint_21 : decode cX12_layPoint 21 = .ok (.iload_n 1, 1) := by decide +kernel
theorem dX12_layPoint_22 : decode cX12_layPoint 22 = .ok (.irem, 1) := by decide +kernel
theorem dX12_layPoint_23 : decode cX12_layPoint 23 = .ok (.i2l, 1) := by decide +kernel
theorem dX12_layPoint_24 : decode cX12_layPoint 24 = .ok (.lastore, 1) := by decide +kernel
theorem dX12_layPoint_25 : decode cX12_layPoint 25 = .ok (.iinc 2 1, 3) := by decide +kernel
theorem dX12_layPoint_28 : decode cX12_layPoint 28 = .ok (.goto (-26), 3) := by decide +kernel
theorem dX12_layPoint_31 : decode cX12_layPoint 31 = .ok (.return_, 1) := by decide +kernel
theorem dX12_worth_0 : decode cX12_worth 0 = .ok (.aload_n 0, 1) := by decide +kernel
theorem dX12_worth_1 : decode cX12_worth 1 = .ok (.iconst 0, 1) := by decide +kernel
theorem dX12_worth_2 : decode cX12_worth 2 = .ok (.putfield 101, 3) := by decide +kernel
theorem dX12_worth_5 : decode cX12_worth 5 = .ok (.aload_n 0, 1) := by decide +kernel
theorem dX12_worth_6 : decode cX12_worth 6 = .ok (.iload_n 1, 1) := by decide +kernel
theorem dX12_worth_7 : decode cX12_worth 7 = .ok (.invokevirtual 194, 3) := by decide +kernel
theorem dX12_worth_10 : decode cX12_worth 10 = .ok (.ifCond .eq 23, 3) := by decide +kernel
theorem dX12_worth_13 : decode cX12_worth 13 = .ok (.iload_n 2, 1) := by decide +kernel
theorem dX12_worth_14 : decode cX12_worth 14 = .ok (.invokestatic 222, 3) := by decide +kernel
theorem dX12_worth_17 : decode cX12_worth 17 = .ok (.ifCond .eq 16, 3) := by decide +kernel
theorem dX12_worth_20 : decode cX12_worth 20 = .ok (.aload_n 0, 1) := by decide +kernel
theorem dX12_worth_21 : decode cX12_worth 21 = .ok (.getfield 212, 3) := by decide +kernel
theorem dX12_worth_24 : decode cX12_worth 24 = .ok (.aload_n 0, 1) := by decide +kernel
theorem dX12_worth_25 : decode cX12_worth 25 = .ok (.getfield 23, 3) := by decide +kernel
theorem dX12_worth_28 : decode cX12_worth 28 = .ok (.iload_n 1, 1) := by decide +kernel
theorem dX12_worth_29 : decode cX12_worth 29 = .ok (.iaload, 1) := by decide +kernel
theorem dX12_worth_30 : decode cX12_worth 30 = .ok (.if_icmp .ge 5, 3) := by decide +kernel
theorem dX12_worth_33 : decode cX12_worth 33 = .ok (.iconst (-1), 1) := by decide +kernel
theorem dX12_worth_34 : decode cX12_worth 34 = .ok (.ireturn, 1) := by decide +kernel
theorem dX12_worth_35 : decode cX12_worth 35 = .ok (.aload_n 0, 1) := by decide +kernel
theorem dX12_worth_36 : decode cX12_worth 36 = .ok (.iload_n 2, 1) := by decide +kernel
theorem dX12_worth_37 : decode cX12_worth 37 = .ok (.invokevirtual 225, 3) := by decide +kernel
theorem dX12_worth_40 : decode cX12_worth 40 = .ok (.aload_n 0, 1) := by decide +kernel
theorem dX12_worth_41 : decode cX12_worth 41 = .ok (.iload_n 1, 1) := by decide +kernel
theorem dX12_worth_42 : decode cX12_worth 42 = .ok (.iload_n 2, 1) := by decide +kernel
theorem dX12_worth_43 : decode cX12_worth 43 = .ok (.i2l, 1) := by decide +kernel
theorem dX12_worth_44 : decode cX12_worth 44 = .ok (.invokevirtual 184, 3) := by decide +kernel
theorem dX12_worth_47 : decode cX12_worth 47 = .ok (.l2i, 1) := by decide +kernel
theorem dX12_worth_48 : decode cX12_worth 48 = .ok (.ireturn, 1) := by decide +kernel
theorem dX12_sum_0 : decode cX12_sum 0 = .ok (.aload_n 0, 1) := by decide +kernel
theorem dX12_sum_1 : decode cX12_sum 1 = .ok (.iconst 0, 1) := by decide +kernel
theorem dX12_sum_2 : decode cX12_sum 2 = .ok (.putfield 101, 3) := by decide +kernel
theorem dX12_sum_5 : decode cX12_sum 5 = .ok (.aload_n 0, 1) := by decide +kernel
theorem dX12_sum_6 : decode cX12_sum 6 = .ok (.iload_n 1, 1) := by decide +kernel
theorem dX12_sum_7 : decode cX12_sum 7 = .ok (.invokevirtual 194, 3) := by decide +kernel
theorem dX12_sum_10 : decode cX12_sum 10 = .ok (.ifCond .eq 10, 3) := by decide +kernel
theorem dX12_sum_13 : decode cX12_sum 13 = .ok (.iload_n 2, 1) := by decide +kernel
theorem dX12_sum_14 : decode cX12_sum 14 = .ok (.invokestatic 222, 3) := by decide +kernel
theorem dX12_sum_17 : decode cX12_sum 17 = .ok (.ifCond .ne 5, 3) := by decide +kernel
theorem dX12_sum_20 : decode cX12_sum 20 = .ok (.iconst (-1), 1) := by decide +kernel
theorem dX12_sum_21 : decode cX12_sum 21 = .ok (.ireturn, 1) := by decide +kernel
theorem dX12_sum_22 : decode cX12_sum 22 = .ok (.aload_n 0, 1) := by decide +kernel
theorem dX12_sum_23 : decode cX12_sum 23 = .ok (.iload_n 2, 1) := by decide +kernel
theorem dX12_sum_24 : decode cX12_sum 24 = .ok (.invokevirtual 225, 3) := by decide +kernel
theorem dX12_sum_27 : decode cX12_sum 27 = .ok (.aload_n 0, 1) := by decide +kernel
theorem dX12_sum_28 : decode cX12_sum 28 = .ok (.iload_n 1, 1) := by decide +kernel
theorem dX12_sum_29 : decode cX12_sum 29 = .ok (.aload_n 0, 1) := by decide +kernel
theorem dX12_sum_30 : decode cX12_sum 30 = .ok (.getfield 212, 3) := by decide +kernel
theorem dX12_sum_33 : decode cX12_sum 33 = .ok (.iload_n 2, 1) := by decide +kernel
theorem dX12_sum_34 : decode cX12_sum 34 = .ok (.i2l, 1) := by decide +kernel
theorem dX12_sum_35 : decode cX12_sum 35 = .ok (.invokevirtual 188, 3) := by decide +kernel
theorem dX12_sum_38 : decode cX12_sum 38 = .ok (.l2i, 1) := by decide +kernel
theorem dX12_sum_39 : decode cX12_sum 39 = .ok (.ireturn, 1) := by decide +kernel
theorem dX12_power_0 : decode cX12_power 0 = .ok (.lconst 1, 1) := by decide +kernel
theorem dX12_power_1 : decode cX12_power 1 = .ok (.lstore 6, 2) := by decide +kernel
theorem dX12_power_3 : decode cX12_power 3 = .ok (.lload_n 0, 1) := by decide +kernel
theorem dX12_power_4 : decode cX12_power 4 = .ok (.lload 4, 2) := by decide +kernel
theorem dX12_power_6 : decode cX12_power 6 = .ok (.lrem, 1) := by decide +kernel
theorem dX12_power_7 : decode cX12_power 7 = .ok (.lstore 8, 2) := by decide +kernel
theorem dX12_power_9 : decode cX12_power 9 = .ok (.lload_n 2, 1) := by decide +kernel
theorem dX12_power_10 : decode cX12_power 10 = .ok (.lstore 10, 2) := by decide +kernel
theorem dX12_power_12 : decode cX12_power 12 = .ok (.lload 10, 2) := by decide +kernel
theorem dX12_power_14 : decode cX12_power 14 = .ok (.lconst 0, 1) := by decide +kernel
theorem dX12_power_15 : decode cX12_power 15 = .ok (.lcmp, 1) := by decide +kernel
theorem dX12_power_16 : decode cX12_power 16 = .ok (.ifCond .le 41, 3) := by decide +kernel
theorem dX12_power_19 : decode cX12_power 19 = .ok (.lload 10, 2) := by decide +kernel
theorem dX12_power_21 : decode cX12_power 21 = .ok (.lconst 1, 1) := by decide +kernel
theorem dX12_power_22 : decode cX12_power 22 = .ok (.land, 1) := by decide +kernel
theorem dX12_power_23 : decode cX12_power 23 = .ok (.lconst 1, 1) := by decide +kernel
theorem dX12_power_24 : decode cX12_power 24 = .ok (.lcmp, 1) := by decide +kernel
theorem dX12_power_25 : decode cX12_power 25 = .ok (.ifCond .ne 13, 3) := by decide +kernel
theorem dX12_power_28 : decode cX12_power 28 = .ok (.lload 6, 2) := by decide +kernel
theorem dX12_power_30 : decode cX12_power 30 = .ok (.lload 8, 2) := by decide +kernel
theorem dX12_power_32 : decode cX12_power 32 = .ok (.lmul, 1) := by decide +kernel
theorem dX12_power_33 : decode cX12_power 33 = .ok (.lload 4, 2) := by decide +kernel
theorem dX12_power_35 : decode cX12_power 35 = .ok (.lrem, 1) := by decide +kernel
theorem dX12_power_36 : decode cX12_power 36 = .ok (.lstore 6, 2) := by decide +kernel
theorem dX12_power_38 : decode cX12_power 38 = .ok (.lload 8, 2) := by decide +kernel
theorem dX12_power_40 : decode cX12_power 40 = .ok (.lload 8, 2) := by decide +kernel
theorem dX12_power_42 : decode cX12_power 42 = .ok (.lmul, 1) := by decide +kernel
theorem dX12_power_43 : decode cX12_power 43 = .ok (.lload 4, 2) := by decide +kernel
theorem dX12_power_45 : decode cX12_power 45 = .ok (.lrem, 1) := by decide +kernel
theorem dX12_power_46 : decode cX12_power 46 = .ok (.lstore 8, 2) := by decide +kernel
theorem dX12_power_48 : decode cX12_power 48 = .ok (.lload 10, 2) := by decide +kernel
theorem dX12_power_50 : decode cX12_power 50 = .ok (.iconst 1, 1) := by decide +kernel
theorem dX12_power_51 : decode cX12_power 51 = .ok (.lshr, 1) := by decide +kernel
theorem dX12_power_52 : decode cX12_power 52 = .ok (.lstore 10, 2) := by decide +kernel
theorem dX12_power_54 : decode cX12_power 54 = .ok (.goto (-42), 3) := by decide +kernel
theorem dX12_power_57 : decode cX12_power 57 = .ok (.lload 6, 2) := by decide +kernel
theorem dX12_power_59 : decode cX12_power 59 = .ok (.lreturn, 1) := by decide +kernel
theorem dX12_curveAt_0 : decode cX12_curveAt 0 = .ok (.lconst 0, 1) := by decide +kernel
theorem dX12_curveAt_1 : decode cX12_curveAt 1 = .ok (.lstore 6, 2) := by decide +kernel
theorem dX12_curveAt_3 : decode cX12_curveAt 3 = .ok (.iconst 0, 1) := by decide +kernel
theorem dX12_curveAt_4 : decode cX12_curveAt 4 = .ok (.istore 8, 2) := by decide +kernel
theorem dX12_curveAt_6 : decode cX12_curveAt 6 = .ok (.iload 8, 2) := by decide +kernel
theorem dX12_curveAt_8 : decode cX12_curveAt 8 = .ok (.iload_n 1, 1) := by decide +kernel
theorem dX12_curveAt_9 : decode cX12_curveAt 9 = .ok (.if_icmp .ge 107, 3) := by decide +kernel
theorem dX12_curveAt_12 : decode cX12_curveAt 12 = .ok (.aload_n 0, 1) := by decide +kernel
theorem dX12_curveAt_13 : decode cX12_curveAt 13 = .ok (.getfield 42, 3) := by decide +kernel
theorem dX12_curveAt_16 : decode cX12_curveAt 16 = .ok (.iload 8, 2) := by decide +kernel
theorem dX12_curveAt_18 : decode cX12_curveAt 18 = .ok (.laload, 1) := by decide +kernel
theorem dX12_curveAt_19 : decode cX12_curveAt 19 = .ok (.lstore 9, 2) := by decide +kernel
theorem dX12_curveAt_21 : decode cX12_curveAt 21 = .ok (.lconst 1, 1) := by decide +kernel
theorem dX12_curveAt_22 : decode cX12_curveAt 22 = .ok (.lstore 11, 2) := by decide +kernel
theorem dX12_curveAt_24 : decode cX12_curveAt 24 = .ok (.iconst 0, 1) := by decide +kernel
theorem dX12_curveAt_25 : decode cX12_curveAt 25 = .ok (.istore 13, 2) := by decide +kernel
theorem dX12_curveAt_27 : decode cX12_curveAt 27 = .ok (.iload 13, 2) := by decide +kernel
theorem dX12_curveAt_29 : decode cX12_curveAt 29 = .ok (.iload_n 1, 1) := by decide +kernel
theorem dX12_curveAt_30 : decode cX12_curveAt 30 = .ok (.if_icmp .ge 56, 3) := by decide +kernel
theorem dX12_curveAt_33 : decode cX12_curveAt 33 = .ok (.iload 13, 2) := by decide +kernel
theorem dX12_curveAt_35 : decode cX12_curveAt 35 = .ok (.iload 8, 2) := by decide +kernel
theorem dX12_curveAt_37 : decode cX12_curveAt 37 = .ok (.if_icmp .ne 6, 3) := by decide +kernel
theorem dX12_curveAt_40 : decode cX12_curveAt 40 = .ok (.goto 40, 3) := by decide +kernel
theorem dX12_curveAt_43 : decode cX12_curveAt 43 = .ok (.lload 9, 2) := by decide +kernel
theorem dX12_curveAt_45 : decode cX12_curveAt 45 = .ok (.lload_n 2, 1) := by decide +kernel
theorem dX12_curveAt_46 : decode cX12_curveAt 46 = .ok (.iload 13, 2) := by decide +kernel
theorem dX12_curveAt_48 : decode cX12_curveAt 48 = .ok (.i2l, 1) := by decide +kernel
theorem dX12_curveAt_49 : decode cX12_curveAt 49 = .ok (.lsub, 1) := by decide +kernel
theorem dX12_curveAt_50 : decode cX12_curveAt 50 = .ok (.lload 4, 2) := by decide +kernel
theorem dX12_curveAt_52 : decode cX12_curveAt 52 = .ok (.invokestatic 180, 3) := by decide +kernel
theorem dX12_curveAt_55 : decode cX12_curveAt 55 = .ok (.lmul, 1) := by decide +kernel
theorem dX12_curveAt_56 : decode cX12_curveAt 56 = .ok (.lload 4, 2) := by decide +kernel
theorem dX12_curveAt_58 : decode cX12_curveAt 58 = .ok (.lrem, 1) := by decide +kernel
theorem dX12_curveAt_59 : decode cX12_curveAt 59 = .ok (.lstore 9, 2) := by decide +kernel
theorem dX12_curveAt_61 : decode cX12_curveAt 61 = .ok (.lload 11, 2) := by decide +kernel
theorem dX12_curveAt_63 : decode cX12_curveAt 63 = .ok (.iload 8, 2) := by decide +kernel
theorem dX12_curveAt_65 : decode cX12_curveAt 65 = .ok (.iload 13, 2) := by decide +kernel
theorem dX12_curveAt_67 : decode cX12_curveAt 67 = .ok (.isub, 1) := by decide +kernel
theorem dX12_curveAt_68 : decode cX12_curveAt 68 = .ok (.i2l, 1) := by decide +kernel
theorem dX12_curveAt_69 : decode cX12_curveAt 69 = .ok (.lload 4, 2) := by decide +kernel
theorem dX12_curveAt_71 : decode cX12_curveAt 71 = .ok (.invokestatic 180, 3) := by decide +kernel
theorem dX12_curveAt_74 : decode cX12_curveAt 74 = .ok (.lmul, 1) := by decide +kernel
theorem dX12_curveAt_75 : decode cX12_curveAt 75 = .ok (.lload 4, 2) := by decide +kernel
theorem dX12_curveAt_77 : decode cX12_curveAt 77 = .ok (.lrem, 1) := by decide +kernel
theorem dX12_curveAt_78 : decode cX12_curveAt 78 = .ok (.lstore 11, 2) := by decide +kernel
theorem dX12_curveAt_80 : decode cX12_curveAt 80 = .ok (.iinc 13 1, 3) := by decide +kernel
theorem dX12_curveAt_83 : decode cX12_curveAt 83 = .ok (.goto (-56), 3) := by decide +kernel
theorem dX12_curveAt_86 : decode cX12_curveAt 86 = .ok (.lload 6, 2) := by decide +kernel
theorem dX12_curveAt_88 : decode cX12_curveAt 88 = .ok (.lload 9, 2) := by decide +kernel
theorem dX12_curveAt_90 : decode cX12_curveAt 90 = .ok (.lload 11, 2) := by decide +kernel
theorem dX12_curveAt_92 : decode cX12_curveAt 92 = .ok (.lload 4, 2) := by decide +kernel
theorem dX12_curveAt_94 : decode cX12_curveAt 94 = .ok (.ldc2_w 215, 3) := by decide +kernel
theorem dX12_curveAt_97 : decode cX12_curveAt 97 = .ok (.lsub, 1) := by decide +kernel
theorem dX12_curveAt_98 : decode cX12_curveAt 98 = .ok (.lload 4, 2) := by decide +kernel
theorem dX12_curveAt_100 : decode cX12_curveAt 100 = .ok (.invokestatic 228, 3) := by decide +kernel
theorem dX12_curveAt_103 : decode cX12_curveAt 103 = .ok (.lmul, 1) := by decide +kernel
theorem dX12_curveAt_104 : decode cX12_curveAt 104 = .ok (.ladd, 1) := by decide +kernel
theorem dX12_curveAt_105 : decode cX12_curveAt 105 = .ok (.lload 4, 2) := by decide +kernel
theorem dX12_curveAt_107 : decode cX12_curveAt 107 = .ok (.lrem, 1) := by decide +kernel
theorem dX12_curveAt_108 : decode cX12_curveAt 108 = .ok (.lstore 6, 2) := by decide +kernel
theorem dX12_curveAt_110 : decode cX12_curveAt 110 = .ok (.iinc 8 1, 3) := by decide +kernel
theorem dX12_curveAt_113 : decode cX12_curveAt 113 = .ok (.goto (-107), 3) := by decide +kernel
theorem dX12_curveAt_116 : decode cX12_curveAt 116 = .ok (.lload 6, 2) := by decide +kernel
theorem dX12_curveAt_118 : decode cX12_curveAt 118 = .ok (.lreturn, 1) := by decide +kernel
theorem dX12_curve_0 : decode cX12_curve 0 = .ok (.aload_n 0, 1) := by decide +kernel
theorem dX12_curve_1 : decode cX12_curve 1 = .ok (.iconst 0, 1) := by decide +kernel
theorem dX12_curve_2 : decode cX12_curve 2 = .ok (.putfield 101, 3) := by decide +kernel
theorem dX12_curve_5 : decode cX12_curve 5 = .ok (.iload_n 1, 1) := by decide +kernel
theorem dX12_curve_6 : decode cX12_curve 6 = .ok (.invokestatic 222, 3) := by decide +kernel
theorem dX12_curve_9 : decode cX12_curve 9 = .ok (.ifCond .eq 22, 3) := by decide +kernel
theorem dX12_curve_12 : decode cX12_curve 12 = .ok (.aload_n 0, 1) := by decide +kernel
theorem dX12_curve_13 : decode cX12_curve 13 = .ok (.getfield 212, 3) := by decide +kernel
theorem dX12_curve_16 : decode cX12_curve 16 = .ok (.ifCond .eq 15, 3) := by decide +kernel
theorem dX12_curve_19 : decode cX12_curve 19 = .ok (.aload_n 0, 1) := by decide +kernel
theorem dX12_curve_20 : decode cX12_curve 20 = .ok (.getfield 212, 3) := by decide +kernel
theorem dX12_curve_23 : decode cX12_curve 23 = .ok (.iload_n 1, 1) := by decide +kernel
theorem dX12_curve_24 : decode cX12_curve 24 = .ok (.if_icmp .ge 7, 3) := by decide +kernel
theorem dX12_curve_27 : decode cX12_curve 27 = .ok (.iload_n 2, 1) := by decide +kernel
theorem dX12_curve_28 : decode cX12_curve 28 = .ok (.ifCond .ge 5, 3) := by decide +kernel
theorem dX12_curve_31 : decode cX12_curve 31 = .ok (.iconst (-1), 1) := by decide +kernel
theorem dX12_curve_32 : decode cX12_curve 32 = .ok (.ireturn, 1) := by decide +kernel
theorem dX12_curve_33 : decode cX12_curve 33 = .ok (.iconst 0, 1) := by decide +kernel
theorem dX12_curve_34 : decode cX12_curve 34 = .ok (.istore_n 3, 1) := by decide +kernel
theorem dX12_curve_35 : decode cX12_curve 35 = .ok (.iload_n 3, 1) := by decide +kernel
theorem dX12_curve_36 : decode cX12_curve 36 = .ok (.aload_n 0, 1) := by decide +kernel
theorem dX12_curve_37 : decode cX12_curve 37 = .ok (.getfield 212, 3) := by decide +kernel
theorem dX12_curve_40 : decode cX12_curve 40 = .ok (.if_icmp .ge 24, 3) := by decide +kernel
theorem dX12_curve_43 : decode cX12_curve 43 = .ok (.aload_n 0, 1) := by decide +kernel
theorem dX12_curve_44 : decode cX12_curve 44 = .ok (.getfield 42, 3) := by decide +kernel
theorem dX12_curve_47 : decode cX12_curve 47 = .ok (.iload_n 3, 1) := by decide +kernel
theorem dX12_curve_48 : decode cX12_curve 48 = .ok (.aload_n 0, 1) := by decide +kernel
theorem dX12_curve_49 : decode cX12_curve 49 = .ok (.getfield 39, 3) := by decide +kernel
theorem dX12_curve_52 : decode cX12_curve 52 = .ok (.iload_n 3, 1) := by decide +kernel
theorem dX12_curve_53 : decode cX12_curve 53 = .ok (.iaload, 1) := by decide +kernel
theorem dX12_curve_54 : decode cX12_curve 54 = .ok (.iload_n 1, 1) := by decide +kernel
theorem dX12_curve_55 : decode cX12_curve 55 = .ok (.irem, 1) := by decide +kernel
theorem dX12_curve_56 : decode cX12_curve 56 = .ok (.i2l, 1) := by decide +kernel
theorem dX12_curve_57 : decode cX12_curve 57 = .ok (.lastore, 1) := by decide +kernel
theorem dX12_curve_58 : decode cX12_curve 58 = .ok (.iinc 3 1, 3) := by decide +kernel
theorem dX12_curve_61 : decode cX12_curve 61 = .ok (.goto (-26), 3) := by decide +kernel
theorem dX12_curve_64 : decode cX12_curve 64 = .ok (.aload_n 0, 1) := by decide +kernel
theorem dX12_curve_65 : decode cX12_curve 65 = .ok (.aload_n 0, 1) := by decide +kernel
theorem dX12_curve_66 : decode cX12_curve 66 = .ok (.getfield 212, 3) := by decide +kernel
theorem dX12_curve_69 : decode cX12_curve 69 = .ok (.iload_n 2, 1) := by decide +kernel
theorem dX12_curve_70 : decode cX12_curve 70 = .ok (.i2l, 1) := by decide +kernel
theorem dX12_curve_71 : decode cX12_curve 71 = .ok (.iload_n 1, 1) := by decide +kernel
theorem dX12_curve_72 : decode cX12_curve 72 = .ok (.i2l, 1) := by decide +kernel
theorem dX12_curve_73 : decode cX12_curve 73 = .ok (.invokevirtual 232, 3) := by decide +kernel
theorem dX12_curve_76 : decode cX12_curve 76 = .ok (.l2i, 1) := by decide +kernel
theorem dX12_curve_77 : decode cX12_curve 77 = .ok (.ireturn, 1) := by decide +kernel
theorem dX12_isDigit_0 : decode cX12_isDigit 0 = .ok (.aload_n 0, 1) := by decide +kernel
theorem dX12_isDigit_1 : decode cX12_isDigit 1 = .ok (.getfield 122, 3) := by decide +kernel
theorem dX12_isDigit_4 : decode cX12_isDigit 4 = .ok (.aload_n 0, 1) := by decide +kernel
theorem dX12_isDigit_5 : decode cX12_isDigit 5 = .ok (.getfield 119, 3) := by decide +kernel
theorem dX12_isDigit_8 : decode cX12_isDigit 8 = .ok (.if_icmp .ge 45, 3) := by decide +kernel
theorem dX12_isDigit_11 : decode cX12_isDigit 11 = .ok (.aload_n 0, 1) := by decide +kernel
theorem dX12_isDigit_12 : decode cX12_isDigit 12 = .ok (.getfield 13, 3) := by decide +kernel
theorem dX12_isDigit_15 : decode cX12_isDigit 15 = .ok (.aload_n 0, 1) := by decide +kernel
theorem dX12_isDigit_16 : decode cX12_isDigit 16 = .ok (.getfield 116, 3) := by decide +kernel
theorem dX12_isDigit_19 : decode cX12_isDigit 19 = .ok (.aload_n 0, 1) := by decide +kernel
theorem dX12_isDigit_20 : decode cX12_isDigit 20 = .ok (.getfield 122, 3) := by decide +kernel
theorem dX12_isDigit_23 : decode cX12_isDigit 23 = .ok (.iadd, 1) := by decide +kernel
theorem dX12_isDigit_24 : decode cX12_isDigit 24 = .ok (.baload, 1) := by decide +kernel
theorem dX12_isDigit_25 : decode cX12_isDigit 25 = .ok (.bipush 48, 2) := by decide +kernel
theorem dX12_isDigit_27 : decode cX12_isDigit 27 = .ok (.if_icmp .lt 26, 3) := by decide +kernel
theorem dX12_isDigit_30 : decode cX12_isDigit 30 = .ok (.aload_n 0, 1) := by decide +kernel
theorem dX12_isDigit_31 : decode cX12_isDigit 31 = .ok (.getfield 13, 3) := by decide +kernel
theorem dX12_isDigit_34 : decode cX12_isDigit 34 = .ok (.aload_n 0, 1) := by decide +kernel
theorem dX12_isDigit_35 : decode cX12_isDigit 35 = .ok (.getfield 116, 3) := by decide +kernel
theorem dX12_isDigit_38 : decode cX12_isDigit 38 = .ok (.aload_n 0, 1) := by decide +kernel
theorem dX12_isDigit_39 : decode cX12_isDigit 39 = .ok (.getfield 122, 3) := by decide +kernel
theorem dX12_isDigit_42 : decode cX12_isDigit 42 = .ok (.iadd, 1) := by decide +kernel
theorem dX12_isDigit_43 : decode cX12_isDigit 43 = .ok (.baload, 1) := by decide +kernel
theorem dX12_isDigit_44 : decode cX12_isDigit 44 = .ok (.bipush 57, 2) := by decide +kernel
theorem dX12_isDigit_46 : decode cX12_isDigit 46 = .ok (.if_icmp .gt 7, 3) := by decide +kernel
theorem dX12_isDigit_49 : decode cX12_isDigit 49 = .ok (.iconst 1, 1) := by decide +kernel
theorem dX12_isDigit_50 : decode cX12_isDigit 50 = .ok (.goto 4, 3) := by decide +kernel
theorem dX12_isDigit_53 : decode cX12_isDigit 53 = .ok (.iconst 0, 1) := by decide +kernel
theorem dX12_isDigit_54 : decode cX12_isDigit 54 = .ok (.ireturn, 1) := by decide +kernel
theorem dX12_within_0 : decode cX12_within 0 = .ok (.ldc2_w 236, 3) := by decide +kernel
theorem dX12_within_3 : decode cX12_within 3 = .ok (.ldc2_w 238, 3) := by decide +kernel
theorem dX12_within_6 : decode cX12_within 6 = .ok (.lload_n 0, 1) := by decide +kernel
theorem dX12_within_7 : decode cX12_within 7 = .ok (.invokestatic 240, 3) := by decide +kernel
theorem dX12_within_10 : decode cX12_within 10 = .ok (.invokestatic 243, 3) := by decide +kernel
theorem dX12_within_13 : decode cX12_within 13 = .ok (.lreturn, 1) := by decide +kernel
theorem dX12_atom_0 : decode cX12_atom 0 = .ok (.aload_n 0, 1) := by decide +kernel
theorem dX12_atom_1 : decode cX12_atom 1 = .ok (.invokevirtual 138, 3) := by decide +kernel
theorem dX12_atom_4 : decode cX12_atom 4 = .ok (.istore_n 1, 1) := by decide +kernel
theorem dX12_atom_5 : decode cX12_atom 5 = .ok (.iload_n 1, 1) := by decide +kernel
theorem dX12_atom_6 : decode cX12_atom 6 = .ok (.iconst (-1), 1) := by decide +kernel
theorem dX12_atom_7 : decode cX12_atom 7 = .ok (.if_icmp .eq 31, 3) := by decide +kernel
theorem dX12_atom_10 : decode cX12_atom 10 = .ok (.aload_n 0, 1) := by decide +kernel
theorem dX12_atom_11 : decode cX12_atom 11 = .ok (.getfield 62, 3) := by decide +kernel
theorem dX12_atom_14 : decode cX12_atom 14 = .ok (.iload_n 1, 1) := by decide +kernel
theorem dX12_atom_15 : decode cX12_atom 15 = .ok (.invokevirtual 245, 3) := by decide +kernel
theorem dX12_atom_18 : decode cX12_atom 18 = .ok (.ifCond .lt 20, 3) := by decide +kernel
theorem dX12_atom_21 : decode cX12_atom 21 = .ok (.aload_n 0, 1) := by decide +kernel
theorem dX12_atom_22 : decode cX12_atom 22 = .ok (.dup, 1) := by decide +kernel
theorem dX12_atom_23 : decode cX12_atom 23 = .ok (.getfield 122, 3) := by decide +kernel
theorem dX12_atom_26 : decode cX12_atom 26 = .ok (.iconst 1, 1) := by decide +kernel
theorem dX12_atom_27 : decode cX12_atom 27 = .ok (.iadd, 1) := by decide +kernel
theorem dX12_atom_28 : decode cX12_atom 28 = .ok (.putfield 122, 3) := by decide +kernel
theorem dX12_atom_31 : decode cX12_atom 31 = .ok (.aload_n 0, 1) := by decide +kernel
theorem dX12_atom_32 : decode cX12_atom 32 = .ok (.getfield 51, 3) := by decide +kernel
theorem dX12_atom_35 : decode cX12_atom 35 = .ok (.iload_n 1, 1) := by decide +kernel
theorem dX12_atom_36 : decode cX12_atom 36 = .ok (.laload, 1) := by decide +kernel
theorem dX12_atom_37 : decode cX12_atom 37 = .ok (.lreturn, 1) := by decide +kernel
theorem dX12_atom_38 : decode cX12_atom 38 = .ok (.iload_n 1, 1) := by decide +kernel
theorem dX12_atom_39 : decode cX12_atom 39 = .ok (.bipush 91, 2) := by decide +kernel
theorem dX12_atom_41 : decode cX12_atom 41 = .ok (.if_icmp .ne 40, 3) := by decide +kernel
theorem dX12_atom_44 : decode cX12_atom 44 = .ok (.aload_n 0, 1) := by decide +kernel
theorem dX12_atom_45 : decode cX12_atom 45 = .ok (.invokevirtual 160, 3) := by decide +kernel
theorem dX12_atom_48 : decode cX12_atom 48 = .ok (.ifCond .ne 5, 3) := by decide +kernel
theorem dX12_atom_51 : decode cX12_atom 51 = .ok (.lconst 0, 1) := by decide +kernel
theorem dX12_atom_52 : decode cX12_atom 52 = .ok (.lreturn, 1) := by decide +kernel
theorem dX12_atom_53 : decode cX12_atom 53 = .ok (.aload_n 0, 1) := by decide +kernel
theorem dX12_atom_54 : decode cX12_atom 54 = .ok (.invokevirtual 250, 3) := by decide +kernel
theorem dX12_atom_57 : decode cX12_atom 57 = .ok (.lstore_n 2, 1) := by decide +kernel
theorem dX12_atom_58 : decode cX12_atom 58 = .ok (.aload_n 0, 1) := by decide +kernel
theorem dX12_atom_59 : decode cX12_atom 59 = .ok (.bipush 93, 2) := by decide +kernel
theorem dX12_atom_61 : decode cX12_atom 61 = .ok (.invokevirtual 166, 3) := by decide +kernel
theorem dX12_atom_64 : decode cX12_atom 64 = .ok (.ifCond .ne 5, 3) := by decide +kernel
theorem dX12_atom_67 : decode cX12_atom 67 = .ok (.lconst 0, 1) := by decide +kernel
theorem dX12_atom_68 : decode cX12_atom 68 = .ok (.lreturn, 1) := by decide +kernel
theorem dX12_atom_69 : decode cX12_atom 69 = .ok (.aload_n 0, 1) := by decide +kernel
theorem dX12_atom_70 : decode cX12_atom 70 = .ok (.dup, 1) := by decide +kernel
theorem dX12_atom_71 : decode cX12_atom 71 = .ok (.getfield 128, 3) := by decide +kernel
theorem dX12_atom_74 : decode cX12_atom 74 = .ok (.iconst 1, 1) := by decide +kernel
theorem dX12_atom_75 : decode cX12_atom 75 = .ok (.isub, 1) := by decide +kernel
theorem dX12_atom_76 : decode cX12_atom 76 = .ok (.putfield 128, 3) := by decide +kernel
theorem dX12_atom_79 : decode cX12_atom 79 = .ok (.lload_n 2, 1) := by decide +kernel
theorem dX12_atom_80 : decode cX12_atom 80 = .ok (.lreturn, 1) := by decide +kernel
theorem dX12_atom_81 : decode cX12_atom 81 = .ok (.aload_n 0, 1) := by decide +kernel
theorem dX12_atom_82 : decode cX12_atom 82 = .ok (.invokevirtual 254, 3) := by decide +kernel
theorem dX12_atom_85 : decode cX12_atom 85 = .ok (.ifCond .ne 8, 3) := by decide +kernel
theorem dX12_atom_88 : decode cX12_atom 88 = .ok (.aload_n 0, 1) := by decide +kernel
theorem dX12_atom_89 : decode cX12_atom 89 = .ok (.invokevirtual 134, 3) := by decide +kernel
theorem dX12_atom_92 : decode cX12_atom 92 = .ok (.pop, 1) := by decide +kernel
theorem dX12_atom_93 : decode cX12_atom 93 = .ok (.lconst 0, 1) := by decide +kernel
theorem dX12_atom_94 : decode cX12_atom 94 = .ok (.lstore_n 2, 1) := by decide +kernel
theorem dX12_atom_95 : decode cX12_atom 95 = .ok (.iconst 0, 1) := by decide +kernel
theorem dX12_atom_96 : decode cX12_atom 96 = .ok (.istore 4, 2) := by decide +kernel
theorem dX12_atom_98 : decode cX12_atom 98 = .ok (.aload_n 0, 1) := by decide +kernel
theorem dX12_atom_99 : decode cX12_atom 99 = .ok (.invokevirtual 254, 3) := by decide +kernel
theorem dX12_atom_102 : decode cX12_atom 102 = .ok (.ifCond .eq 66, 3) := by decide +kernel
theorem dX12_atom_105 : decode cX12_atom 105 = .ok (.aload_n 0, 1) := by decide +kernel
theorem dX12_atom_106 : decode cX12_atom 106 = .ok (.getfield 125, 3) := by decide +kernel
theorem dX12_atom_109 : decode cX12_atom 109 = .ok (.iconst (-1), 1) := by decide +kernel
theorem dX12_atom_110 : decode cX12_atom 110 = .ok (.if_icmp .ne 58, 3) := by decide +kernel
theorem dX12_atom_113 : decode cX12_atom 113 = .ok (.iload 4, 2) := by decide +kernel
theorem dX12_atom_115 : decode cX12_atom 115 = .ok (.iconst 4, 1) := by decide +kernel
theorem dX12_atom_116 : decode cX12_atom 116 = .ok (.if_icmp .ne 10, 3) := by decide +kernel
theorem dX12_atom_119 : decode cX12_atom 119 = .ok (.aload_n 0, 1) := by decide +kernel
theorem dX12_atom_120 : decode cX12_atom 120 = .ok (.invokevirtual 134, 3) := by decide +kernel
theorem dX12_atom_123 : decode cX12_atom 123 = .ok (.pop, 1) := by decide +kernel
theorem dX12_atom_124 : decode cX12_atom 124 = .ok (.lconst 0, 1) := by decide +kernel
theorem dX12_atom_125 : decode cX12_atom 125 = .ok (.lreturn, 1) := by decide +kernel
theorem dX12_atom_126 : decode cX12_atom 126 = .ok (.ldc2_w 257, 3) := by decide +kernel
theorem dX12_atom_129 : decode cX12_atom 129 = .ok (.lload_n 2, 1) := by decide +kernel
theorem dX12_atom_130 : decode cX12_atom 130 = .ok (.lmul, 1) := by decide +kernel
theorem dX12_atom_131 : decode cX12_atom 131 = .ok (.aload_n 0, 1) := by decide +kernel
theorem dX12_atom_132 : decode cX12_atom 132 = .ok (.getfield 13, 3) := by decide +kernel
theorem dX12_atom_135 : decode cX12_atom 135 = .ok (.aload_n 0, 1) := by decide +kernel
theorem dX12_atom_136 : decode cX12_atom 136 = .ok (.getfield 116, 3) := by decide +kernel
theorem dX12_atom_139 : decode cX12_atom 139 = .ok (.aload_n 0, 1) := by decide +kernel
theorem dX12_atom_140 : decode cX12_atom 140 = .ok (.getfield 122, 3) := by decide +kernel
theorem dX12_atom_143 : decode cX12_atom 143 = .ok (.iadd, 1) := by decide +kernel
theorem dX12_atom_144 : decode cX12_atom 144 = .ok (.baload, 1) := by decide +kernel
theorem dX12_atom_145 : decode cX12_atom 145 = .ok (.i2l, 1) := by decide +kernel
theorem dX12_atom_146 : decode cX12_atom 146 = .ok (.ladd, 1) := by decide +kernel
theorem dX12_atom_147 : decode cX12_atom 147 = .ok (.ldc2_w 259, 3) := by decide +kernel
theorem dX12_atom_150 : decode cX12_atom 150 = .ok (.lsub, 1) := by decide +kernel
theorem dX12_atom_151 : decode cX12_atom 151 = .ok (.lstore_n 2, 1) := by decide +kernel
theorem dX12_atom_152 : decode cX12_atom 152 = .ok (.aload_n 0, 1) := by decide +kernel
theorem dX12_atom_153 : decode cX12_atom 153 = .ok (.dup, 1) := by decide +kernel
theorem dX12_atom_154 : decode cX12_atom 154 = .ok (.getfield 122, 3) := by decide +kernel
theorem dX12_atom_157 : decode cX12_atom 157 = .ok (.iconst 1, 1) := by decide +kernel
theorem dX12_atom_158 : decode cX12_atom 158 = .ok (.iadd, 1) := by decide +kernel
theorem dX12_atom_159 : decode cX12_atom 159 = .ok (.putfield 122, 3) := by decide +kernel
theorem dX12_atom_162 : decode cX12_atom 162 = .ok (.iinc 4 1, 3) := by decide +kernel
theorem dX12_atom_165 : decode cX12_atom 165 = .ok (.goto (-67), 3) := by decide +kernel
theorem dX12_atom_168 : decode cX12_atom 168 = .ok (.lload_n 2, 1) := by decide +kernel
theorem dX12_atom_169 : decode cX12_atom 169 = .ok (.lreturn, 1) := by decide +kernel
theorem dX12_term_0 : decode cX12_term 0 = .ok (.aload_n 0, 1) := by decide +kernel
theorem dX12_term_1 : decode cX12_term 1 = .ok (.invokevirtual 261, 3) := by decide +kernel
theorem dX12_term_4 : decode cX12_term 4 = .ok (.lstore_n 1, 1) := by decide +kernel
theorem dX12_term_5 : decode cX12_term 5 = .ok (.aload_n 0, 1) := by decide +kernel
theorem dX12_term_6 : decode cX12_term 6 = .ok (.getfield 125, 3) := by decide +kernel
theorem dX12_term_9 : decode cX12_term 9 = .ok (.iconst (-1), 1) := by decide +kernel
theorem dX12_term_10 : decode cX12_term 10 = .ok (.if_icmp .ne 85, 3) := by decide +kernel
theorem dX12_term_13 : decode cX12_term 13 = .ok (.aload_n 0, 1) := by decide +kernel
theorem dX12_term_14 : decode cX12_term 14 = .ok (.invokevirtual 138, 3) := by decide +kernel
theorem dX12_term_17 : decode cX12_term 17 = .ok (.bipush 42, 2) := by decide +kernel
theorem dX12_term_19 : decode cX12_term 19 = .ok (.if_icmp .eq 12, 3) := by decide +kernel
theorem dX12_term_22 : decode cX12_term 22 = .ok (.aload_n 0, 1) := by decide +kernel
theorem dX12_term_23 : decode cX12_term 23 = .ok (.invokevirtual 138, 3) := by decide +kernel
theorem dX12_term_26 : decode cX12_term 26 = .ok (.bipush 47, 2) := by decide +kernel
theorem dX12_term_28 : decode cX12_term 28 = .ok (.if_icmp .ne 67, 3) := by decide +kernel
theorem dX12_term_31 : decode cX12_term 31 = .ok (.aload_n 0, 1) := by decide +kernel
theorem dX12_term_32 : decode cX12_term 32 = .ok (.invokevirtual 138, 3) := by decide +kernel
theorem dX12_term_35 : decode cX12_term 35 = .ok (.bipush 42, 2) := by decide +kernel
theorem dX12_term_37 : decode cX12_term 37 = .ok (.if_icmp .ne 7, 3) := by decide +kernel
theorem dX12_term_40 : decode cX12_term 40 = .ok (.iconst 1, 1) := by decide +kernel
theorem dX12_term_41 : decode cX12_term 41 = .ok (.goto 4, 3) := by decide +kernel
theorem dX12_term_44 : decode cX12_term 44 = .ok (.iconst 0, 1) := by decide +kernel
theorem dX12_term_45 : decode cX12_term 45 = .ok (.istore_n 3, 1) := by decide +kernel
theorem dX12_term_46 : decode cX12_term 46 = .ok (.aload_n 0, 1) := by decide +kernel
theorem dX12_term_47 : decode cX12_term 47 = .ok (.dup, 1) := by decide +kernel
theorem dX12_term_48 : decode cX12_term 48 = .ok (.getfield 122, 3) := by decide +kernel
theorem dX12_term_51 : decode cX12_term 51 = .ok (.iconst 1, 1) := by decide +kernel
theorem dX12_term_52 : decode cX12_term 52 = .ok (.iadd, 1) := by decide +kernel
theorem dX12_term_53 : decode cX12_term 53 = .ok (.putfield 122, 3) := by decide +kernel
theorem dX12_term_56 : decode cX12_term 56 = .ok (.aload_n 0, 1) := by decide +kernel
theorem dX12_term_57 : decode cX12_term 57 = .ok (.invokevirtual 261, 3) := by decide +kernel
theorem dX12_term_60 : decode cX12_term 60 = .ok (.lstore 4, 2) := by decide +kernel
theorem dX12_term_62 : decode cX12_term 62 = .ok (.iload_n 3, 1) := by decide +kernel
theorem dX12_term_63 : decode cX12_term 63 = .ok (.ifCond .eq 10, 3) := by decide +kernel
theorem dX12_term_66 : decode cX12_term 66 = .ok (.lload_n 1, 1) := by decide +kernel
theorem dX12_term_67 : decode cX12_term 67 = .ok (.lload 4, 2) := by decide +kernel
theorem dX12_term_69 : decode cX12_term 69 = .ok (.lmul, 1) := by decide +kernel
theorem dX12_term_70 : decode cX12_term 70 = .ok (.goto 18, 3) := by decide +kernel
theorem dX12_term_73 : decode cX12_term 73 = .ok (.lload 4, 2) := by decide +kernel
theorem dX12_term_75 : decode cX12_term 75 = .ok (.lconst 0, 1) := by decide +kernel
theorem dX12_term_76 : decode cX12_term 76 = .ok (.lcmp, 1) := by decide +kernel
theorem dX12_term_77 : decode cX12_term 77 = .ok (.ifCond .ne 7, 3) := by decide +kernel
theorem dX12_term_80 : decode cX12_term 80 = .ok (.lconst 0, 1) := by decide +kernel
theorem dX12_term_81 : decode cX12_term 81 = .ok (.goto 7, 3) := by decide +kernel
theorem dX12_term_84 : decode cX12_term 84 = .ok (.lload_n 1, 1) := by decide +kernel
theorem dX12_term_85 : decode cX12_term 85 = .ok (.lload 4, 2) := by decide +kernel
theorem dX12_term_87 : decode cX12_term 87 = .ok (.ldiv, 1) := by decide +kernel
theorem dX12_term_88 : decode cX12_term 88 = .ok (.invokestatic 264, 3) := by decide +kernel
theorem dX12_term_91 : decode cX12_term 91 = .ok (.lstore_n 1, 1) := by decide +kernel
theorem dX12_term_92 : decode cX12_term 92 = .ok (.goto (-87), 3) := by decide +kernel
theorem dX12_term_95 : decode cX12_term 95 = .ok (.lload_n 1, 1) := by decide +kernel
theorem dX12_term_96 : decode cX12_term 96 = .ok (.lreturn, 1) := by decide +kernel
theorem dX12_reckon_0 : decode cX12_reckon 0 = .ok (.aload_n 0, 1) := by decide +kernel
theorem dX12_reckon_1 : decode cX12_reckon 1 = .ok (.invokevirtual 268, 3) := by decide +kernel
theorem dX12_reckon_4 : decode cX12_reckon 4 = .ok (.lstore_n 1, 1) := by decide +kernel
theorem dX12_reckon_5 : decode cX12_reckon 5 = .ok (.aload_n 0, 1) := by decide +kernel
theorem dX12_reckon_6 : decode cX12_reckon 6 = .ok (.getfield 125, 3) := by decide +kernel
theorem dX12_reckon_9 : decode cX12_reckon 9 = .ok (.iconst (-1), 1) := by decide +kernel
theorem dX12_reckon_10 : decode cX12_reckon 10 = .ok (.if_icmp .ne 74, 3) := by decide +kernel
theorem dX12_reckon_13 : decode cX12_reckon 13 = .ok (.aload_n 0, 1) := by decide +kernel
theorem dX12_reckon_14 : decode cX12_reckon 14 = .ok (.invokevirtual 138, 3) := by decide +kernel
theorem dX12_reckon_17 : decode cX12_reckon 17 = .ok (.bipush 43, 2) := by decide +kernel
theorem dX12_reckon_19 : decode cX12_reckon 19 = .ok (.if_icmp .eq 12, 3) := by decide +kernel
theorem dX12_reckon_22 : decode cX12_reckon 22 = .ok (.aload_n 0, 1) := by decide +kernel
theorem dX12_reckon_23 : decode cX12_reckon 23 = .ok (.invokevirtual 138, 3) := by decide +kernel
theorem dX12_reckon_26 : decode cX12_reckon 26 = .ok (.bipush 45, 2) := by decide +kernel
theorem dX12_reckon_28 : decode cX12_reckon 28 = .ok (.if_icmp .ne 56, 3) := by decide +kernel
theorem dX12_reckon_31 : decode cX12_reckon 31 = .ok (.aload_n 0, 1) := by decide +kernel
theorem dX12_reckon_32 : decode cX12_reckon 32 = .ok (.invokevirtual 138, 3) := by decide +kernel
theorem dX12_reckon_35 : decode cX12_reckon 35 = .ok (.bipush 43, 2) := by decide +kernel
theorem dX12_reckon_37 : decode cX12_reckon 37 = .ok (.if_icmp .ne 7, 3) := by decide +kernel
theorem dX12_reckon_40 : decode cX12_reckon 40 = .ok (.iconst 1, 1) := by decide +kernel
theorem dX12_reckon_41 : decode cX12_reckon 41 = .ok (.goto 4, 3) := by decide +kernel
theorem dX12_reckon_44 : decode cX12_reckon 44 = .ok (.iconst 0, 1) := by decide +kernel
theorem dX12_reckon_45 : decode cX12_reckon 45 = .ok (.istore_n 3, 1) := by decide +kernel
theorem dX12_reckon_46 : decode cX12_reckon 46 = .ok (.aload_n 0, 1) := by decide +kernel
theorem dX12_reckon_47 : decode cX12_reckon 47 = .ok (.dup, 1) := by decide +kernel
theorem dX12_reckon_48 : decode cX12_reckon 48 = .ok (.getfield 122, 3) := by decide +kernel
theorem dX12_reckon_51 : decode cX12_reckon 51 = .ok (.iconst 1, 1) := by decide +kernel
theorem dX12_reckon_52 : decode cX12_reckon 52 = .ok (.iadd, 1) := by decide +kernel
theorem dX12_reckon_53 : decode cX12_reckon 53 = .ok (.putfield 122, 3) := by decide +kernel
theorem dX12_reckon_56 : decode cX12_reckon 56 = .ok (.aload_n 0, 1) := by decide +kernel
theorem dX12_reckon_57 : decode cX12_reckon 57 = .ok (.invokevirtual 268, 3) := by decide +kernel
theorem dX12_reckon_60 : decode cX12_reckon 60 = .ok (.lstore 4, 2) := by decide +kernel
theorem dX12_reckon_62 : decode cX12_reckon 62 = .ok (.iload_n 3, 1) := by decide +kernel
theorem dX12_reckon_63 : decode cX12_reckon 63 = .ok (.ifCond .eq 10, 3) := by decide +kernel
theorem dX12_reckon_66 : decode cX12_reckon 66 = .ok (.lload_n 1, 1) := by decide +kernel
theorem dX12_reckon_67 : decode cX12_reckon 67 = .ok (.lload 4, 2) := by decide +kernel
theorem dX12_reckon_69 : decode cX12_reckon 69 = .ok (.ladd, 1) := by decide +kernel
theorem dX12_reckon_70 : decode cX12_reckon 70 = .ok (.goto 7, 3) := by decide +kernel
theorem dX12_reckon_73 : decode cX12_reckon 73 = .ok (.lload_n 1, 1) := by decide +kernel
theorem dX12_reckon_74 : decode cX12_reckon 74 = .ok (.lload 4, 2) := by decide +kernel
theorem dX12_reckon_76 : decode cX12_reckon 76 = .ok (.lsub, 1) := by decide +kernel
theorem dX12_reckon_77 : decode cX12_reckon 77 = .ok (.invokestatic 264, 3) := by decide +kernel
theorem dX12_reckon_80 : decode cX12_reckon 80 = .ok (.lstore_n 1, 1) := by decide +kernel
theorem dX12_reckon_81 : decode cX12_reckon 81 = .ok (.goto (-76), 3) := by decide +kernel
theorem dX12_reckon_84 : decode cX12_reckon 84 = .ok (.lload_n 1, 1) := by decide +kernel
theorem dX12_reckon_85 : decode cX12_reckon 85 = .ok (.lreturn, 1) := by decide +kernel
theorem dX12_isSign_0 : decode cX12_isSign 0 = .ok (.iload_n 0, 1) := by decide +kernel
theorem dX12_isSign_1 : decode cX12_isSign 1 = .ok (.bipush 61, 2) := by decide +kernel
theorem dX12_isSign_3 : decode cX12_isSign 3 = .ok (.if_icmp .eq 15, 3) := by decide +kernel
theorem dX12_isSign_6 : decode cX12_isSign 6 = .ok (.iload_n 0, 1) := by decide +kernel
theorem dX12_isSign_7 : decode cX12_isSign 7 = .ok (.bipush 60, 2) := by decide +kernel
theorem dX12_isSign_9 : decode cX12_isSign 9 = .ok (.if_icmp .eq 9, 3) := by decide +kernel
theorem dX12_isSign_12 : decode cX12_isSign 12 = .ok (.iload_n 0, 1) := by decide +kernel
theorem dX12_isSign_13 : decode cX12_isSign 13 = .ok (.bipush 62, 2) := by decide +kernel
theorem dX12_isSign_15 : decode cX12_isSign 15 = .ok (.if_icmp .ne 7, 3) := by decide +kernel
theorem dX12_isSign_18 : decode cX12_isSign 18 = .ok (.iconst 1, 1) := by decide +kernel
theorem dX12_isSign_19 : decode cX12_isSign 19 = .ok (.goto 4, 3) := by decide +kernel
theorem dX12_isSign_22 : decode cX12_isSign 22 = .ok (.iconst 0, 1) := by decide +kernel
theorem dX12_isSign_23 : decode cX12_isSign 23 = .ok (.ireturn, 1) := by decide +kernel
theorem dX12_compares_0 : decode cX12_compares 0 = .ok (.iload_n 1, 1) := by decide +kernel
theorem dX12_compares_1 : decode cX12_compares 1 = .ok (.ifCond .eq 7, 3) := by decide +kernel
theorem dX12_compares_4 : decode cX12_compares 4 = .ok (.lload_n 2, 1) := by decide +kernel
theorem dX12_compares_5 : decode cX12_compares 5 = .ok (.goto 7, 3) := by decide +kernel
theorem dX12_compares_8 : decode cX12_compares 8 = .ok (.aload_n 0, 1) := by decide +kernel
theorem dX12_compares_9 : decode cX12_compares 9 = .ok (.invokevirtual 250, 3) := by decide +kernel
theorem dX12_compares_12 : decode cX12_compares 12 = .ok (.lstore 4, 2) := by decide +kernel
theorem dX12_compares_14 : decode cX12_compares 14 = .ok (.aload_n 0, 1) := by decide +kernel
theorem dX12_compares_15 : decode cX12_compares 15 = .ok (.getfield 125, 3) := by decide +kernel
theorem dX12_compares_18 : decode cX12_compares 18 = .ok (.iconst (-1), 1) := by decide +kernel
theorem dX12_compares_19 : decode cX12_compares 19 = .ok (.if_icmp .eq 5, 3) := by decide +kernel
theorem dX12_compares_22 : decode cX12_compares 22 = .ok (.iconst 0, 1) := by decide +kernel
theorem dX12_compares_23 : decode cX12_compares 23 = .ok (.ireturn, 1) := by decide +kernel
theorem dX12_compares_24 : decode cX12_compares 24 = .ok (.aload_n 0, 1) := by decide +kernel
theorem dX12_compares_25 : decode cX12_compares 25 = .ok (.invokevirtual 138, 3) := by decide +kernel
theorem dX12_compares_28 : decode cX12_compares 28 = .ok (.istore 6, 2) := by decide +kernel
theorem dX12_compares_30 : decode cX12_compares 30 = .ok (.iload 6, 2) := by decide +kernel
theorem dX12_compares_32 : decode cX12_compares 32 = .ok (.invokestatic 271, 3) := by decide +kernel
theorem dX12_compares_35 : decode cX12_compares 35 = .ok (.ifCond .ne 8, 3) := by decide +kernel
theorem dX12_compares_38 : decode cX12_compares 38 = .ok (.aload_n 0, 1) := by decide +kernel
theorem dX12_compares_39 : decode cX12_compares 39 = .ok (.invokevirtual 134, 3) := by decide +kernel
theorem dX12_compares_42 : decode cX12_compares 42 = .ok (.ireturn, 1) := by decide +kernel
theorem dX12_compares_43 : decode cX12_compares 43 = .ok (.aload_n 0, 1) := by decide +kernel
theorem dX12_compares_44 : decode cX12_compares 44 = .ok (.dup, 1) := by decide +kernel
theorem dX12_compares_45 : decode cX12_compares 45 = .ok (.getfield 122, 3) := by decide +kernel
theorem dX12_compares_48 : decode cX12_compares 48 = .ok (.iconst 1, 1) := by decide +kernel
theorem dX12_compares_49 : decode cX12_compares 49 = .ok (.iadd, 1) := by decide +kernel
theorem dX12_compares_50 : decode cX12_compares 50 = .ok (.putfield 122, 3) := by decide +kernel
theorem dX12_compares_53 : decode cX12_compares 53 = .ok (.aload_n 0, 1) := by decide +kernel
theorem dX12_compares_54 : decode cX12_compares 54 = .ok (.invokevirtual 250, 3) := by decide +kernel
theorem dX12_compares_57 : decode cX12_compares 57 = .ok (.lstore 7, 2) := by decide +kernel
theorem dX12_compares_59 : decode cX12_compares 59 = .ok (.iload 6, 2) := by decide +kernel
theorem dX12_compares_61 : decode cX12_compares 61 = .ok (.bipush 61, 2) := by decide +kernel
theorem dX12_compares_63 : decode cX12_compares 63 = .ok (.if_icmp .ne 19, 3) := by decide +kernel
theorem dX12_compares_66 : decode cX12_compares 66 = .ok (.lload 4, 2) := by decide +kernel
theorem dX12_compares_68 : decode cX12_compares 68 = .ok (.lload 7, 2) := by decide +kernel
theorem dX12_compares_70 : decode cX12_compares 70 = .ok (.lcmp, 1) := by decide +kernel
theorem dX12_compares_71 : decode cX12_compares 71 = .ok (.ifCond .ne 7, 3) := by decide +kernel
theorem dX12_compares_74 : decode cX12_compares 74 = .ok (.iconst 1, 1) := by decide +kernel
theorem dX12_compares_75 : decode cX12_compares 75 = .ok (.goto 43, 3) := by decide +kernel
theorem dX12_compares_78 : decode cX12_compares 78 = .ok (.iconst 0, 1) := by decide +kernel
theorem dX12_compares_79 : decode cX12_compares 79 = .ok (.goto 39, 3) := by decide +kernel
theorem dX12_compares_82 : decode cX12_compares 82 = .ok (.iload 6, 2) := by decide +kernel
theorem dX12_compares_84 : decode cX12_compares 84 = .ok (.bipush 60, 2) := by decide +kernel
theorem dX12_compares_86 : decode cX12_compares 86 = .ok (.if_icmp .ne 19, 3) := by decide +kernel
theorem dX12_compares_89 : decode cX12_compares 89 = .ok (.lload 4, 2) := by decide +kernel
theorem dX12_compares_91 : decode cX12_compares 91 = .ok (.lload 7, 2) := by decide +kernel
theorem dX12_compares_93 : decode cX12_compares 93 = .ok (.lcmp, 1) := by decide +kernel
theorem dX12_compares_94 : decode cX12_compares 94 = .ok (.ifCond .ge 7, 3) := by decide +kernel
theorem dX12_compares_97 : decode cX12_compares 97 = .ok (.iconst 1, 1) := by decide +kernel
theorem dX12_compares_98 : decode cX12_compares 98 = .ok (.goto 20, 3) := by decide +kernel
theorem dX12_compares_101 : decode cX12_compares 101 = .ok (.iconst 0, 1) := by decide +kernel
theorem dX12_compares_102 : decode cX12_compares 102 = .ok (.goto 16, 3) := by decide +kernel
theorem dX12_compares_105 : decode cX12_compares 105 = .ok (.lload 4, 2) := by decide +kernel
theorem dX12_compares_107 : decode cX12_compares 107 = .ok (.lload 7, 2) := by decide +kernel
theorem dX12_compares_109 : decode cX12_compares 109 = .ok (.lcmp, 1) := by decide +kernel
theorem dX12_compares_110 : decode cX12_compares 110 = .ok (.ifCond .le 7, 3) := by decide +kernel
theorem dX12_compares_113 : decode cX12_compares 113 = .ok (.iconst 1, 1) := by decide +kernel
theorem dX12_compares_114 : decode cX12_compares 114 = .ok (.goto 4, 3) := by decide +kernel
theorem dX12_compares_117 : decode cX12_compares 117 = .ok (.iconst 0, 1) := by decide +kernel
theorem dX12_compares_118 : decode cX12_compares 118 = .ok (.ireturn, 1) := by decide +kernel
theorem dX12_unit_0 : decode cX12_unit 0 = .ok (.aload_n 0, 1) := by decide +kernel
theorem dX12_unit_1 : decode cX12_unit 1 = .ok (.invokevirtual 138, 3) := by decide +kernel
theorem dX12_unit_4 : decode cX12_unit 4 = .ok (.istore_n 1, 1) := by decide +kernel
theorem dX12_unit_5 : decode cX12_unit 5 = .ok (.iload_n 1, 1) := by decide +kernel
theorem dX12_unit_6 : decode cX12_unit 6 = .ok (.bipush 33, 2) := by decide +kernel
theorem dX12_unit_8 : decode cX12_unit 8 = .ok (.if_icmp .ne 37, 3) := by decide +kernel
theorem dX12_unit_11 : decode cX12_unit 11 = .ok (.aload_n 0, 1) := by decide +kernel
theorem dX12_unit_12 : decode cX12_unit 12 = .ok (.invokevirtual 160, 3) := by decide +kernel
theorem dX12_unit_15 : decode cX12_unit 15 = .ok (.ifCond .ne 5, 3) := by decide +kernel
theorem dX12_unit_18 : decode cX12_unit 18 = .ok (.iconst 0, 1) := by decide +kernel
theorem dX12_unit_19 : decode cX12_unit 19 = .ok (.ireturn, 1) := by decide +kernel
theorem dX12_unit_20 : decode cX12_unit 20 = .ok (.aload_n 0, 1) := by decide +kernel
theorem dX12_unit_21 : decode cX12_unit 21 = .ok (.invokevirtual 274, 3) := by decide +kernel
theorem dX12_unit_24 : decode cX12_unit 24 = .ok (.istore_n 2, 1) := by decide +kernel
theorem dX12_unit_25 : decode cX12_unit 25 = .ok (.aload_n 0, 1) := by decide +kernel
theorem dX12_unit_26 : decode cX12_unit 26 = .ok (.dup, 1) := by decide +kernel
theorem dX12_unit_27 : decode cX12_unit 27 = .ok (.getfield 128, 3) := by decide +kernel
theorem dX12_unit_30 : decode cX12_unit 30 = .ok (.iconst 1, 1) := by decide +kernel
theorem dX12_unit_31 : decode cX12_unit 31 = .ok (.isub, 1) := by decide +kernel
theorem dX12_unit_32 : decode cX12_unit 32 = .ok (.putfield 128, 3) := by decide +kernel
theorem dX12_unit_35 : decode cX12_unit 35 = .ok (.iload_n 2, 1) := by decide +kernel
theorem dX12_unit_36 : decode cX12_unit 36 = .ok (.ifCond .ne 7, 3) := by decide +kernel
theorem dX12_unit_39 : decode cX12_unit 39 = .ok (.iconst 1, 1) := by decide +kernel
theorem dX12_unit_40 : decode cX12_unit 40 = .ok (.goto 4, 3) := by decide +kernel
theorem dX12_unit_43 : decode cX12_unit 43 = .ok (.iconst 0, 1) := by decide +kernel
theorem dX12_unit_44 : decode cX12_unit 44 = .ok (.ireturn, 1) := by decide +kernel
theorem dX12_unit_45 : decode cX12_unit 45 = .ok (.iload_n 1, 1) := by decide +kernel
theorem dX12_unit_46 : decode cX12_unit 46 = .ok (.bipush 40, 2) := by decide +kernel
theorem dX12_unit_48 : decode cX12_unit 48 = .ok (.if_icmp .ne 42, 3) := by decide +kernel
theorem dX12_unit_51 : decode cX12_unit 51 = .ok (.aload_n 0, 1) := by decide +kernel
theorem dX12_unit_52 : decode cX12_unit 52 = .ok (.invokevirtual 160, 3) := by decide +kernel
theorem dX12_unit_55 : decode cX12_unit 55 = .ok (.ifCond .ne 5, 3) := by decide +kernel
theorem dX12_unit_58 : decode cX12_unit 58 = .ok (.iconst 0, 1) := by decide +kernel
theorem dX12_unit_59 : decode cX12_unit 59 = .ok (.ireturn, 1) := by decide +kernel
theorem dX12_unit_60 : decode cX12_unit 60 = .ok (.aload_n 0, 1) := by decide +kernel
theorem dX12_unit_61 : decode cX12_unit 61 = .ok (.iconst 0, 1) := by decide +kernel
theorem dX12_unit_62 : decode cX12_unit 62 = .ok (.lconst 0, 1) := by decide +kernel
theorem dX12_unit_63 : decode cX12_unit 63 = .ok (.invokevirtual 277, 3) := by decide +kernel
theorem dX12_unit_66 : decode cX12_unit 66 = .ok (.istore_n 2, 1) := by decide +kernel
theorem dX12_unit_67 : decode cX12_unit 67 = .ok (.aload_n 0, 1) := by decide +kernel
theorem dX12_unit_68 : decode cX12_unit 68 = .ok (.bipush 41, 2) := by decide +kernel
theorem dX12_unit_70 : decode cX12_unit 70 = .ok (.invokevirtual 166, 3) := by decide +kernel
theorem dX12_unit_73 : decode cX12_unit 73 = .ok (.ifCond .ne 5, 3) := by decide +kernel
theorem dX12_unit_76 : decode cX12_unit 76 = .ok (.iconst 0, 1) := by decide +kernel
theorem dX12_unit_77 : decode cX12_unit 77 = .ok (.ireturn, 1) := by decide +kernel
theorem dX12_unit_78 : decode cX12_unit 78 = .ok (.aload_n 0, 1) := by decide +kernel
theorem dX12_unit_79 : decode cX12_unit 79 = .ok (.dup, 1) := by decide +kernel
theorem dX12_unit_80 : decode cX12_unit 80 = .ok (.getfield 128, 3) := by decide +kernel
theorem dX12_unit_83 : decode cX12_unit 83 = .ok (.iconst 1, 1) := by decide +kernel
theorem dX12_unit_84 : decode cX12_unit 84 = .ok (.isub, 1) := by decide +kernel
theorem dX12_unit_85 : decode cX12_unit 85 = .ok (.putfield 128, 3) := by decide +kernel
theorem dX12_unit_88 : decode cX12_unit 88 = .ok (.iload_n 2, 1) := by decide +kernel
theorem dX12_unit_89 : decode cX12_unit 89 = .ok (.ireturn, 1) := by decide +kernel
theorem dX12_unit_90 : decode cX12_unit 90 = .ok (.aload_n 0, 1) := by decide +kernel
theorem dX12_unit_91 : decode cX12_unit 91 = .ok (.iconst 0, 1) := by decide +kernel
theorem dX12_unit_92 : decode cX12_unit 92 = .ok (.lconst 0, 1) := by decide +kernel
theorem dX12_unit_93 : decode cX12_unit 93 = .ok (.invokevirtual 281, 3) := by decide +kernel
theorem dX12_unit_96 : decode cX12_unit 96 = .ok (.ireturn, 1) := by decide +kernel
theorem dX12_part_0 : decode cX12_part 0 = .ok (.iload_n 1, 1) := by decide +kernel
theorem dX12_part_1 : decode cX12_part 1 = .ok (.ifCond .eq 12, 3) := by decide +kernel
theorem dX12_part_4 : decode cX12_part 4 = .ok (.aload_n 0, 1) := by decide +kernel
theorem dX12_part_5 : decode cX12_part 5 = .ok (.iconst 1, 1) := by decide +kernel
theorem dX12_part_6 : decode cX12_part 6 = .ok (.lload_n 2, 1) := by decide +kernel
theorem dX12_part_7 : decode cX12_part 7 = .ok (.invokevirtual 281, 3) := by decide +kernel
theorem dX12_part_10 : decode cX12_part 10 = .ok (.goto 7, 3) := by decide +kernel
theorem dX12_part_13 : decode cX12_part 13 = .ok (.aload_n 0, 1) := by decide +kernel
theorem dX12_part_14 : decode cX12_part 14 = .ok (.invokevirtual 274, 3) := by decide +kernel
theorem dX12_part_17 : decode cX12_part 17 = .ok (.istore 4, 2) := by decide +kernel
theorem dX12_part_19 : decode cX12_part 19 = .ok (.aload_n 0, 1) := by decide +kernel
theorem dX12_part_20 : decode cX12_part 20 = .ok (.getfield 125, 3) := by decide +kernel
theorem dX12_part_23 : decode cX12_part 23 = .ok (.iconst (-1), 1) := by decide +kernel
theorem dX12_part_24 : decode cX12_part 24 = .ok (.if_icmp .ne 48, 3) := by decide +kernel
theorem dX12_part_27 : decode cX12_part 27 = .ok (.aload_n 0, 1) := by decide +kernel
theorem dX12_part_28 : decode cX12_part 28 = .ok (.invokevirtual 138, 3) := by decide +kernel
theorem dX12_part_31 : decode cX12_part 31 = .ok (.bipush 38, 2) := by decide +kernel
theorem dX12_part_33 : decode cX12_part 33 = .ok (.if_icmp .ne 39, 3) := by decide +kernel
theorem dX12_part_36 : decode cX12_part 36 = .ok (.aload_n 0, 1) := by decide +kernel
theorem dX12_part_37 : decode cX12_part 37 = .ok (.dup, 1) := by decide +kernel
theorem dX12_part_38 : decode cX12_part 38 = .ok (.getfield 122, 3) := by decide +kernel
theorem dX12_part_41 : decode cX12_part 41 = .ok (.iconst 1, 1) := by decide +kernel
theorem dX12_part_42 : decode cX12_part 42 = .ok (.iadd, 1) := by decide +kernel
theorem dX12_part_43 : decode cX12_part 43 = .ok (.putfield 122, 3) := by decide +kernel
theorem dX12_part_46 : decode cX12_part 46 = .ok (.aload_n 0, 1) := by decide +kernel
theorem dX12_part_47 : decode cX12_part 47 = .ok (.invokevirtual 274, 3) := by decide +kernel
theorem dX12_part_50 : decode cX12_part 50 = .ok (.istore 5, 2) := by decide +kernel
theorem dX12_part_52 : decode cX12_part 52 = .ok (.iload 4, 2) := by decide +kernel
theorem dX12_part_54 : decode cX12_part 54 = .ok (.ifCond .eq 12, 3) := by decide +kernel
theorem dX12_part_57 : decode cX12_part 57 = .ok (.iload 5, 2) := by decide +kernel
theorem dX12_part_59 : decode cX12_part 59 = .ok (.ifCond .eq 7, 3) := by decide +kernel
theorem dX12_part_62 : decode cX12_part 62 = .ok (.iconst 1, 1) := by decide +kernel
theorem dX12_part_63 : decode cX12_part 63 = .ok (.goto 4, 3) := by decide +kernel
theorem dX12_part_66 : decode cX12_part 66 = .ok (.iconst 0, 1) := by decide +kernel
theorem dX12_part_67 : decode cX12_part 67 = .ok (.istore 4, 2) := by decide +kernel
theorem dX12_part_69 : decode cX12_part 69 = .ok (.goto (-50), 3) := by decide +kernel
theorem dX12_part_72 : decode cX12_part 72 = .ok (.iload 4, 2) := by decide +kernel
theorem dX12_part_74 : decode cX12_part 74 = .ok (.ireturn, 1) := by decide +kernel
theorem dX12_condition_0 : decode cX12_condition 0 = .ok (.aload_n 0, 1) := by decide +kernel
theorem dX12_condition_1 : decode cX12_condition 1 = .ok (.iload_n 1, 1) := by decide +kernel
theorem dX12_condition_2 : decode cX12_condition 2 = .ok (.lload_n 2, 1) := by decide +kernel
theorem dX12_condition_3 : decode cX12_condition 3 = .ok (.invokevirtual 284, 3) := by decide +kernel
theorem dX12_condition_6 : decode cX12_condition 6 = .ok (.istore 4, 2) := by decide +kernel
theorem dX12_condition_8 : decode cX12_condition 8 = .ok (.aload_n 0, 1) := by decide +kernel
theorem dX12_condition_9 : decode cX12_condition 9 = .ok (.getfield 125, 3) := by decide +kernel
theorem dX12_condition_12 : decode cX12_condition 12 = .ok (.iconst (-1), 1) := by decide +kernel
theorem dX12_condition_13 : decode cX12_condition 13 = .ok (.if_icmp .ne 50, 3) := by decide +kernel
theorem dX12_condition_16 : decode cX12_condition 16 = .ok (.aload_n 0, 1) := by decide +kernel
theorem dX12_condition_17 : decode cX12_condition 17 = .ok (.invokevirtual 138, 3) := by decide +kernel
theorem dX12_condition_20 : decode cX12_condition 20 = .ok (.bipush 124, 2) := by decide +kernel
theorem dX12_condition_22 : decode cX12_condition 22 = .ok (.if_icmp .ne 41, 3) := by decide +kernel
theorem dX12_condition_25 : decode cX12_condition 25 = .ok (.aload_n 0, 1) := by decide +kernel
theorem dX12_condition_26 : decode cX12_condition 26 = .ok (.dup, 1) := by decide +kernel
theorem dX12_condition_27 : decode cX12_condition 27 = .ok (.getfield 122, 3) := by decide +kernel
theorem dX12_condition_30 : decode cX12_condition 30 = .ok (.iconst 1, 1) := by decide +kernel
theorem dX12_condition_31 : decode cX12_condition 31 = .ok (.iadd, 1) := by decide +kernel
theorem dX12_condition_32 : decode cX12_condition 32 = .ok (.putfield 122, 3) := by decide +kernel
theorem dX12_condition_35 : decode cX12_condition 35 = .ok (.aload_n 0, 1) := by decide +kernel
theorem dX12_condition_36 : decode cX12_condition 36 = .ok (.iconst 0, 1) := by decide +kernel
theorem dX12_condition_37 : decode cX12_condition 37 = .ok (.lconst 0, 1) := by decide +kernel
theorem dX12_condition_38 : decode cX12_condition 38 = .ok (.invokevirtual 284, 3) := by decide +kernel
theorem dX12_condition_41 : decode cX12_condition 41 = .ok (.istore 5, 2) := by decide +kernel
theorem dX12_condition_43 : decode cX12_condition 43 = .ok (.iload 4, 2) := by decide +kernel
theorem dX12_condition_45 : decode cX12_condition 45 = .ok (.ifCond .ne 8, 3) := by decide +kernel
theorem dX12_condition_48 : decode cX12_condition 48 = .ok (.iload 5, 2) := by decide +kernel
theorem dX12_condition_50 : decode cX12_condition 50 = .ok (.ifCond .eq 7, 3) := by decide +kernel
theorem dX12_condition_53 : decode cX12_condition 53 = .ok (.iconst 1, 1) := by decide +kernel
theorem dX12_condition_54 : decode cX12_condition 54 = .ok (.goto 4, 3) := by decide +kernel
theorem dX12_condition_57 : decode cX12_condition 57 = .ok (.iconst 0, 1) := by decide +kernel
theorem dX12_condition_58 : decode cX12_condition 58 = .ok (.istore 4, 2) := by decide +kernel
theorem dX12_condition_60 : decode cX12_condition 60 = .ok (.goto (-52), 3) := by decide +kernel
theorem dX12_condition_63 : decode cX12_condition 63 = .ok (.iload 4, 2) := by decide +kernel
theorem dX12_condition_65 : decode cX12_condition 65 = .ok (.ireturn, 1) := by decide +kernel
theorem dX12_clause_0 : decode cX12_clause 0 = .ok (.aload_n 0, 1) := by decide +kernel
theorem dX12_clause_1 : decode cX12_clause 1 = .ok (.invokevirtual 138, 3) := by decide +kernel
theorem dX12_clause_4 : decode cX12_clause 4 = .ok (.istore_n 1, 1) := by decide +kernel
theorem dX12_clause_5 : decode cX12_clause 5 = .ok (.iload_n 1, 1) := by decide +kernel
theorem dX12_clause_6 : decode cX12_clause 6 = .ok (.iconst (-1), 1) := by decide +kernel
theorem dX12_clause_7 : decode cX12_clause 7 = .ok (.if_icmp .eq 14, 3) := by decide +kernel
theorem dX12_clause_10 : decode cX12_clause 10 = .ok (.aload_n 0, 1) := by decide +kernel
theorem dX12_clause_11 : decode cX12_clause 11 = .ok (.getfield 56, 3) := by decide +kernel
theorem dX12_clause_14 : decode cX12_clause 14 = .ok (.iload_n 1, 1) := by decide +kernel
theorem dX12_clause_15 : decode cX12_clause 15 = .ok (.invokevirtual 245, 3) := by decide +kernel
theorem dX12_clause_18 : decode cX12_clause 18 = .ok (.ifCond .ge 9, 3) := by decide +kernel
theorem dX12_clause_21 : decode cX12_clause 21 = .ok (.aload_n 0, 1) := by decide +kernel
theorem dX12_clause_22 : decode cX12_clause 22 = .ok (.invokevirtual 134, 3) := by decide +kernel
theorem dX12_clause_25 : decode cX12_clause 25 = .ok (.pop, 1) := by decide +kernel
theorem dX12_clause_26 : decode cX12_clause 26 = .ok (.return_, 1) := by decide +kernel
theorem dX12_clause_27 : decode cX12_clause 27 = .ok (.aload_n 0, 1) := by decide +kernel
theorem dX12_clause_28 : decode cX12_clause 28 = .ok (.dup, 1) := by decide +kernel
theorem dX12_clause_29 : decode cX12_clause 29 = .ok (.getfield 122, 3) := by decide +kernel
theorem dX12_clause_32 : decode cX12_clause 32 = .ok (.iconst 1, 1) := by decide +kernel
theorem dX12_clause_33 : decode cX12_clause 33 = .ok (.iadd, 1) := by decide +kernel
theorem dX12_clause_34 : decode cX12_clause 34 = .ok (.putfield 122, 3) := by decide +kernel
theorem dX12_clause_37 : decode cX12_clause 37 = .ok (.aload_n 0, 1) := by decide +kernel
theorem dX12_clause_38 : decode cX12_clause 38 = .ok (.bipush 58, 2) := by decide +kernel
theorem dX12_clause_40 : decode cX12_clause 40 = .ok (.invokevirtual 166, 3) := by decide +kernel
theorem dX12_clause_43 : decode cX12_clause 43 = .ok (.ifCond .ne 4, 3) := by decide +kernel
theorem dX12_clause_46 : decode cX12_clause 46 = .ok (.return_, 1) := by decide +kernel
theorem dX12_clause_47 : decode cX12_clause 47 = .ok (.iconst 1, 1) := by decide +kernel
theorem dX12_clause_48 : decode cX12_clause 48 = .ok (.istore_n 2, 1) := by decide +kernel
theorem dX12_clause_49 : decode cX12_clause 49 = .ok (.lconst 0, 1) := by decide +kernel
theorem dX12_clause_50 : decode cX12_clause 50 = .ok (.lstore_n 3, 1) := by decide +kernel
theorem dX12_clause_51 : decode cX12_clause 51 = .ok (.aload_n 0, 1) := by decide +kernel
theorem dX12_clause_52 : decode cX12_clause 52 = .ok (.invokevirtual 138, 3) := by decide +kernel
theorem dX12_clause_55 : decode cX12_clause 55 = .ok (.istore 5, 2) := by decide +kernel
theorem dX12_clause_57 : decode cX12_clause 57 = .ok (.iload 5, 2) := by decide +kernel
theorem dX12_clause_59 : decode cX12_clause 59 = .ok (.bipush 33, 2) := by decide +kernel
theorem dX12_clause_61 : decode cX12_clause 61 = .ok (.if_icmp .eq 10, 3) := by decide +kernel
theorem dX12_clause_64 : decode cX12_clause 64 = .ok (.iload 5, 2) := by decide +kernel
theorem dX12_clause_66 : decode cX12_clause 66 = .ok (.bipush 40, 2) := by decide +kernel
theorem dX12_clause_68 : decode cX12_clause 68 = .ok (.if_icmp .ne 28, 3) := by decide +kernel
theorem dX12_clause_71 : decode cX12_clause 71 = .ok (.aload_n 0, 1) := by decide +kernel
theorem dX12_clause_72 : decode cX12_clause 72 = .ok (.iconst 0, 1) := by decide +kernel
theorem dX12_clause_73 : decode cX12_clause 73 = .ok (.lconst 0, 1) := by decide +kernel
theorem dX12_clause_74 : decode cX12_clause 74 = .ok (.invokevirtual 277, 3) := by decide +kernel
theorem dX12_clause_77 : decode cX12_clause 77 = .ok (.istore_n 2, 1) := by decide +kernel
theorem dX12_clause_78 : decode cX12_clause 78 = .ok (.aload_n 0, 1) := by decide +kernel
theorem dX12_clause_79 : decode cX12_clause 79 = .ok (.bipush 63, 2) := by decide +kernel
theorem dX12_clause_81 : decode cX12_clause 81 = .ok (.invokevirtual 166, 3) := by decide +kernel
theorem dX12_clause_84 : decode cX12_clause 84 = .ok (.ifCond .ne 4, 3) := by decide +kernel
theorem dX12_clause_87 : decode cX12_clause 87 = .ok (.return_, 1) := by decide +kernel
theorem dX12_clause_88 : decode cX12_clause 88 = .ok (.aload_n 0, 1) := by decide +kernel
theorem dX12_clause_89 : decode cX12_clause 89 = .ok (.invokevirtual 250, 3) := by decide +kernel
theorem dX12_clause_92 : decode cX12_clause 92 = .ok (.lstore_n 3, 1) := by decide +kernel
theorem dX12_clause_93 : decode cX12_clause 93 = .ok (.goto 48, 3) := by decide +kernel
theorem dX12_clause_96 : decode cX12_clause 96 = .ok (.aload_n 0, 1) := by decide +kernel
theorem dX12_clause_97 : decode cX12_clause 97 = .ok (.invokevirtual 250, 3) := by decide +kernel
theorem dX12_clause_100 : decode cX12_clause 100 = .ok (.lstore_n 3, 1) := by decide +kernel
theorem dX12_clause_101 : decode cX12_clause 101 = .ok (.aload_n 0, 1) := by decide +kernel
theorem dX12_clause_102 : decode cX12_clause 102 = .ok (.getfield 125, 3) := by decide +kernel
theorem dX12_clause_105 : decode cX12_clause 105 = .ok (.iconst (-1), 1) := by decide +kernel
theorem dX12_clause_106 : decode cX12_clause 106 = .ok (.if_icmp .ne 35, 3) := by decide +kernel
theorem dX12_clause_109 : decode cX12_clause 109 = .ok (.aload_n 0, 1) := by decide +kernel
theorem dX12_clause_110 : decode cX12_clause 110 = .ok (.invokevirtual 138, 3) := by decide +kernel
theorem dX12_clause_113 : decode cX12_clause 113 = .ok (.invokestatic 271, 3) := by decide +kernel
theorem dX12_clause_116 : decode cX12_clause 116 = .ok (.ifCond .eq 25, 3) := by decide +kernel
theorem dX12_clause_119 : decode cX12_clause 119 = .ok (.aload_n 0, 1) := by decide +kernel
theorem dX12_clause_120 : decode cX12_clause 120 = .ok (.iconst 1, 1) := by decide +kernel
theorem dX12_clause_121 : decode cX12_clause 121 = .ok (.lload_n 3, 1) := by decide +kernel
theorem dX12_clause_122 : decode cX12_clause 122 = .ok (.invokevirtual 277, 3) := by decide +kernel
theorem dX12_clause_125 : decode cX12_clause 125 = .ok (.istore_n 2, 1) := by decide +kernel
theorem dX12_clause_126 : decode cX12_clause 126 = .ok (.aload_n 0, 1) := by decide +kernel
theorem dX12_clause_127 : decode cX12_clause 127 = .ok (.bipush 63, 2) := by decide +kernel
theorem dX12_clause_129 : decode cX12_clause 129 = .ok (.invokevirtual 166, 3) := by decide +kernel
theorem dX12_clause_132 : decode cX12_clause 132 = .ok (.ifCond .ne 4, 3) := by decide +kernel
theorem dX12_clause_135 : decode cX12_clause 135 = .ok (.return_, 1) := by decide +kernel
theorem dX12_clause_136 : decode cX12_clause 136 = .ok (.aload_n 0, 1) := by decide +kernel
theorem dX12_clause_137 : decode cX12_clause 137 = .ok (.invokevirtual 250, 3) := by decide +kernel
theorem dX12_clause_140 : decode cX12_clause 140 = .ok (.lstore_n 3, 1) := by decide +kernel
theorem dX12_clause_141 : decode cX12_clause 141 = .ok (.aload_n 0, 1) := by decide +kernel
theorem dX12_clause_142 : decode cX12_clause 142 = .ok (.getfield 125, 3) := by decide +kernel
theorem dX12_clause_145 : decode cX12_clause 145 = .ok (.iconst (-1), 1) := by decide +kernel
theorem dX12_clause_146 : decode cX12_clause 146 = .ok (.if_icmp .ne 22, 3) := by decide +kernel
theorem dX12_clause_149 : decode cX12_clause 149 = .ok (.aload_n 0, 1) := by decide +kernel
theorem dX12_clause_150 : decode cX12_clause 150 = .ok (.getfield 287, 3) := by decide +kernel
theorem dX12_clause_153 : decode cX12_clause 153 = .ok (.ifCond .ne 15, 3) := by decide +kernel
theorem dX12_clause_156 : decode cX12_clause 156 = .ok (.iload_n 1, 1) := by decide +kernel
theorem dX12_clause_157 : decode cX12_clause 157 = .ok (.aload_n 0, 1) := by decide +kernel
theorem dX12_clause_158 : decode cX12_clause 158 = .ok (.getfield 291, 3) := by decide +kernel
theorem dX12_clause_161 : decode cX12_clause 161 = .ok (.if_icmp .ne 7, 3) := by decide +kernel
theorem dX12_clause_164 : decode cX12_clause 164 = .ok (.iload_n 2, 1) := by decide +kernel
theorem dX12_clause_165 : decode cX12_clause 165 = .ok (.ifCond .ne 4, 3) := by decide +kernel
theorem dX12_clause_168 : decode cX12_clause 168 = .ok (.return_, 1) := by decide +kernel
theorem dX12_clause_169 : decode cX12_clause 169 = .ok (.aload_n 0, 1) := by decide +kernel
theorem dX12_clause_170 : decode cX12_clause 170 = .ok (.iconst 1, 1) := by decide +kernel
theorem dX12_clause_171 : decode cX12_clause 171 = .ok (.putfield 287, 3) := by decide +kernel
theorem dX12_clause_174 : decode cX12_clause 174 = .ok (.aload_n 0, 1) := by decide +kernel
theorem dX12_clause_175 : decode cX12_clause 175 = .ok (.lload_n 3, 1) := by decide +kernel
theorem dX12_clause_176 : decode cX12_clause 176 = .ok (.putfield 294, 3) := by decide +kernel
theorem dX12_clause_179 : decode cX12_clause 179 = .ok (.return_, 1) := by decide +kernel
theorem dX12_goThrough_0 : decode cX12_goThrough 0 = .ok (.aload_n 0, 1) := by decide +kernel
theorem dX12_goThrough_1 : decode cX12_goThrough 1 = .ok (.aload_n 1, 1) := by decide +kernel
theorem dX12_goThrough_2 : decode cX12_goThrough 2 = .ok (.iload_n 2, 1) := by decide +kernel
theorem dX12_goThrough_3 : decode cX12_goThrough 3 = .ok (.iload_n 3, 1) := by decide +kernel
theorem dX12_goThrough_4 : decode cX12_goThrough 4 = .ok (.bipush 6, 2) := by decide +kernel
theorem dX12_goThrough_6 : decode cX12_goThrough 6 = .ok (.invokevirtual 173, 3) := by decide +kernel
theorem dX12_goThrough_9 : decode cX12_goThrough 9 = .ok (.aload_n 0, 1) := by decide +kernel
theorem dX12_goThrough_10 : decode cX12_goThrough 10 = .ok (.iload 4, 2) := by decide +kernel
theorem dX12_goThrough_12 : decode cX12_goThrough 12 = .ok (.ifCond .eq 9, 3) := by decide +kernel
theorem dX12_goThrough_15 : decode cX12_goThrough 15 = .ok (.ldc_w 298, 3) := by decide +kernel
theorem dX12_goThrough_18 : decode cX12_goThrough 18 = .ok (.goto 5, 3) := by decide +kernel
theorem dX12_goThrough_21 : decode cX12_goThrough 21 = .ok (.ldc 54, 2) := by decide +kernel
theorem dX12_goThrough_23 : decode cX12_goThrough 23 = .ok (.putfield 56, 3) := by decide +kernel
theorem dX12_goThrough_26 : decode cX12_goThrough 26 = .ok (.aload_n 0, 1) := by decide +kernel
theorem dX12_goThrough_27 : decode cX12_goThrough 27 = .ok (.iload 4, 2) := by decide +kernel
theorem dX12_goThrough_29 : decode cX12_goThrough 29 = .ok (.ifCond .eq 9, 3) := by decide +kernel
theorem dX12_goThrough_32 : decode cX12_goThrough 32 = .ok (.ldc_w 300, 3) := by decide +kernel
theorem dX12_goThrough_35 : decode cX12_goThrough 35 = .ok (.goto 5, 3) := by decide +kernel
theorem dX12_goThrough_38 : decode cX12_goThrough 38 = .ok (.ldc 60, 2) := by decide +kernel
theorem dX12_goThrough_40 : decode cX12_goThrough 40 = .ok (.putfield 62, 3) := by decide +kernel
theorem dX12_goThrough_43 : decode cX12_goThrough 43 = .ok (.aload_n 0, 1) := by decide +kernel
theorem dX12_goThrough_44 : decode cX12_goThrough 44 = .ok (.iload 5, 2) := by decide +kernel
theorem dX12_goThrough_46 : decode cX12_goThrough 46 = .ok (.putfield 291, 3) := by decide +kernel
theorem dX12_goThrough_49 : decode cX12_goThrough 49 = .ok (.aload_n 0, 1) := by decide +kernel
theorem dX12_goThrough_50 : decode cX12_goThrough 50 = .ok (.iconst 0, 1) := by decide +kernel
theorem dX12_goThrough_51 : decode cX12_goThrough 51 = .ok (.putfield 287, 3) := by decide +kernel
theorem dX12_goThrough_54 : decode cX12_goThrough 54 = .ok (.aload_n 0, 1) := by decide +kernel
theorem dX12_goThrough_55 : decode cX12_goThrough 55 = .ok (.lconst 0, 1) := by decide +kernel
theorem dX12_goThrough_56 : decode cX12_goThrough 56 = .ok (.putfield 294, 3) := by decide +kernel
theorem dX12_goThrough_59 : decode cX12_goThrough 59 = .ok (.aload_n 0, 1) := by decide +kernel
theorem dX12_goThrough_60 : decode cX12_goThrough 60 = .ok (.invokevirtual 302, 3) := by decide +kernel
theorem dX12_goThrough_63 : decode cX12_goThrough 63 = .ok (.aload_n 0, 1) := by decide +kernel
theorem dX12_goThrough_64 : decode cX12_goThrough 64 = .ok (.getfield 125, 3) := by decide +kernel
theorem dX12_goThrough_67 : decode cX12_goThrough 67 = .ok (.iconst (-1), 1) := by decide +kernel
theorem dX12_goThrough_68 : decode cX12_goThrough 68 = .ok (.if_icmp .ne 29, 3) := by decide +kernel
theorem dX12_goThrough_71 : decode cX12_goThrough 71 = .ok (.aload_n 0, 1) := by decide +kernel
theorem dX12_goThrough_72 : decode cX12_goThrough 72 = .ok (.invokevirtual 138, 3) := by decide +kernel
theorem dX12_goThrough_75 : decode cX12_goThrough 75 = .ok (.bipush 59, 2) := by decide +kernel
theorem dX12_goThrough_77 : decode cX12_goThrough 77 = .ok (.if_icmp .ne 20, 3) := by decide +kernel
theorem dX12_goThrough_80 : decode cX12_goThrough 80 = .ok (.aload_n 0, 1) := by decide +kernel
theorem dX12_goThrough_81 : decode cX12_goThrough 81 = .ok (.dup, 1) := by decide +kernel
theorem dX12_goThrough_82 : decode cX12_goThrough 82 = .ok (.getfield 122, 3) := by decide +kernel
theorem dX12_goThrough_85 : decode cX12_goThrough 85 = .ok (.iconst 1, 1) := by decide +kernel
theorem dX12_goThrough_86 : decode cX12_goThrough 86 = .ok (.iadd, 1) := by decide +kernel
theorem dX12_goThrough_87 : decode cX12_goThrough 87 = .ok (.putfield 122, 3) := by decide +kernel
theorem dX12_goThrough_90 : decode cX12_goThrough 90 = .ok (.aload_n 0, 1) := by decide +kernel
theorem dX12_goThrough_91 : decode cX12_goThrough 91 = .ok (.invokevirtual 302, 3) := by decide +kernel
theorem dX12_goThrough_94 : decode cX12_goThrough 94 = .ok (.goto (-31), 3) := by decide +kernel
theorem dX12_goThrough_97 : decode cX12_goThrough 97 = .ok (.aload_n 0, 1) := by decide +kernel
theorem dX12_goThrough_98 : decode cX12_goThrough 98 = .ok (.getfield 125, 3) := by decide +kernel
theorem dX12_goThrough_101 : decode cX12_goThrough 101 = .ok (.iconst (-1), 1) := by decide +kernel
theorem dX12_goThrough_102 : decode cX12_goThrough 102 = .ok (.if_icmp .ne 16, 3) := by decide +kernel
theorem dX12_goThrough_105 : decode cX12_goThrough 105 = .ok (.aload_n 0, 1) := by decide +kernel
theorem dX12_goThrough_106 : decode cX12_goThrough 106 = .ok (.invokevirtual 138, 3) := by decide +kernel
theorem dX12_goThrough_109 : decode cX12_goThrough 109 = .ok (.iconst (-1), 1) := by decide +kernel
theorem dX12_goThrough_110 : decode cX12_goThrough 110 = .ok (.if_icmp .eq 8, 3) := by decide +kernel
theorem dX12_goThrough_113 : decode cX12_goThrough 113 = .ok (.aload_n 0, 1) := by decide +kernel
theorem dX12_goThrough_114 : decode cX12_goThrough 114 = .ok (.invokevirtual 134, 3) := by decide +kernel
theorem dX12_goThrough_117 : decode cX12_goThrough 117 = .ok (.pop, 1) := by decide +kernel
theorem dX12_goThrough_118 : decode cX12_goThrough 118 = .ok (.return_, 1) := by decide +kernel
theorem dX12_fault_0 : decode cX12_fault 0 = .ok (.aload_n 0, 1) := by decide +kernel
theorem dX12_fault_1 : decode cX12_fault 1 = .ok (.iconst 0, 1) := by decide +kernel
theorem dX12_fault_2 : decode cX12_fault 2 = .ok (.putfield 101, 3) := by decide +kernel
theorem dX12_fault_5 : decode cX12_fault 5 = .ok (.iload_n 1, 1) := by decide +kernel
theorem dX12_fault_6 : decode cX12_fault 6 = .ok (.i2l, 1) := by decide +kernel
theorem dX12_fault_7 : decode cX12_fault 7 = .ok (.lconst 0, 1) := by decide +kernel
theorem dX12_fault_8 : decode cX12_fault 8 = .ok (.ldc2_w 215, 3) := by decide +kernel
theorem dX12_fault_11 : decode cX12_fault 11 = .ok (.invokestatic 199, 3) := by decide +kernel
theorem dX12_fault_14 : decode cX12_fault 14 = .ok (.ifCond .ne 6, 3) := by decide +kernel
theorem dX12_fault_17 : decode cX12_fault 17 = .ok (.bipush (-2), 2) := by decide +kernel
theorem dX12_fault_19 : decode cX12_fault 19 = .ok (.ireturn, 1) := by decide +kernel
theorem dX12_fault_20 : decode cX12_fault 20 = .ok (.iload_n 1, 1) := by decide +kernel
theorem dX12_fault_21 : decode cX12_fault 21 = .ok (.ifCond .ne 14, 3) := by decide +kernel
theorem dX12_fault_24 : decode cX12_fault 24 = .ok (.aload_n 0, 1) := by decide +kernel
theorem dX12_fault_25 : decode cX12_fault 25 = .ok (.invokevirtual 177, 3) := by decide +kernel
theorem dX12_fault_28 : decode cX12_fault 28 = .ok (.ifCond .eq 7, 3) := by decide +kernel
theorem dX12_fault_31 : decode cX12_fault 31 = .ok (.iconst 1, 1) := by decide +kernel
theorem dX12_fault_32 : decode cX12_fault 32 = .ok (.goto 4, 3) := by decide +kernel
theorem dX12_fault_35 : decode cX12_fault 35 = .ok (.iconst 0, 1) := by decide +kernel
theorem dX12_fault_36 : decode cX12_fault 36 = .ok (.istore_n 2, 1) := by decide +kernel
theorem dX12_fault_37 : decode cX12_fault 37 = .ok (.iload_n 1, 1) := by decide +kernel
theorem dX12_fault_38 : decode cX12_fault 38 = .ok (.ifCond .le 27, 3) := by decide +kernel
theorem dX12_fault_41 : decode cX12_fault 41 = .ok (.aload_n 0, 1) := by decide +kernel
theorem dX12_fault_42 : decode cX12_fault 42 = .ok (.aload_n 0, 1) := by decide +kernel
theorem dX12_fault_43 : decode cX12_fault 43 = .ok (.getfield 9, 3) := by decide +kernel
theorem dX12_fault_46 : decode cX12_fault 46 = .ok (.iconst 0, 1) := by decide +kernel
theorem dX12_fault_47 : decode cX12_fault 47 = .ok (.aload_n 0, 1) := by decide +kernel
theorem dX12_fault_48 : decode cX12_fault 48 = .ok (.getfield 105, 3) := by decide +kernel
theorem dX12_fault_51 : decode cX12_fault 51 = .ok (.iload_n 1, 1) := by decide +kernel
theorem dX12_fault_52 : decode cX12_fault 52 = .ok (.iconst 2, 1) := by decide +kernel
theorem dX12_fault_53 : decode cX12_fault 53 = .ok (.if_icmp .ne 7, 3) := by decide +kernel
theorem dX12_fault_56 : decode cX12_fault 56 = .ok (.iconst 1, 1) := by decide +kernel
theorem dX12_fault_57 : decode cX12_fault 57 = .ok (.goto 4, 3) := by decide +kernel
theorem dX12_fault_60 : decode cX12_fault 60 = .ok (.iconst 0, 1) := by decide +kernel
theorem dX12_fault_61 : decode cX12_fault 61 = .ok (.iconst 0, 1) := by decide +kernel
theorem dX12_fault_62 : decode cX12_fault 62 = .ok (.invokevirtual 305, 3) := by decide +kernel
theorem dX12_fault_65 : decode cX12_fault 65 = .ok (.aload_n 0, 1) := by decide +kernel
theorem dX12_fault_66 : decode cX12_fault 66 = .ok (.getfield 125, 3) := by decide +kernel
theorem dX12_fault_69 : decode cX12_fault 69 = .ok (.ireturn, 1) := by decide +kernel
theorem dX12_keeps_0 : decode cX12_keeps 0 = .ok (.aload_n 0, 1) := by decide +kernel
theorem dX12_keeps_1 : decode cX12_keeps 1 = .ok (.aload_n 0, 1) := by decide +kernel
theorem dX12_keeps_2 : decode cX12_keeps 2 = .ok (.getfield 9, 3) := by decide +kernel
theorem dX12_keeps_5 : decode cX12_keeps 5 = .ok (.iconst 0, 1) := by decide +kernel
theorem dX12_keeps_6 : decode cX12_keeps 6 = .ok (.aload_n 0, 1) := by decide +kernel
theorem dX12_keeps_7 : decode cX12_keeps 7 = .ok (.getfield 105, 3) := by decide +kernel
theorem dX12_keeps_10 : decode cX12_keeps 10 = .ok (.iload_n 2, 1) := by decide +kernel
theorem dX12_keeps_11 : decode cX12_keeps 11 = .ok (.iconst 0, 1) := by decide +kernel
theorem dX12_keeps_12 : decode cX12_keeps 12 = .ok (.invokevirtual 305, 3) := by decide +kernel
theorem dX12_keeps_15 : decode cX12_keeps 15 = .ok (.aload_n 0, 1) := by decide +kernel
theorem dX12_keeps_16 : decode cX12_keeps 16 = .ok (.getfield 125, 3) := by decide +kernel
theorem dX12_keeps_19 : decode cX12_keeps 19 = .ok (.iconst (-1), 1) := by decide +kernel
theorem dX12_keeps_20 : decode cX12_keeps 20 = .ok (.if_icmp .eq 5, 3) := by decide +kernel
theorem dX12_keeps_23 : decode cX12_keeps 23 = .ok (.iconst 0, 1) := by decide +kernel
theorem dX12_keeps_24 : decode cX12_keeps 24 = .ok (.ireturn, 1) := by decide +kernel
theorem dX12_keeps_25 : decode cX12_keeps 25 = .ok (.iconst 0, 1) := by decide +kernel
theorem dX12_keeps_26 : decode cX12_keeps 26 = .ok (.istore_n 3, 1) := by decide +kernel
theorem dX12_keeps_27 : decode cX12_keeps 27 = .ok (.iload_n 3, 1) := by decide +kernel
theorem dX12_keeps_28 : decode cX12_keeps 28 = .ok (.aload_n 0, 1) := by decide +kernel
theorem dX12_keeps_29 : decode cX12_keeps 29 = .ok (.getfield 105, 3) := by decide +kernel
theorem dX12_keeps_32 : decode cX12_keeps 32 = .ok (.if_icmp .ge 27, 3) := by decide +kernel
theorem dX12_keeps_35 : decode cX12_keeps 35 = .ok (.aload_n 0, 1) := by decide +kernel
theorem dX12_keeps_36 : decode cX12_keeps 36 = .ok (.getfield 45, 3) := by decide +kernel
theorem dX12_keeps_39 : decode cX12_keeps 39 = .ok (.sipush 200, 3) := by decide +kernel
theorem dX12_keeps_42 : decode cX12_keeps 42 = .ok (.iload_n 1, 1) := by decide +kernel
theorem dX12_keeps_43 : decode cX12_keeps 43 = .ok (.imul, 1) := by decide +kernel
theorem dX12_keeps_44 : decode cX12_keeps 44 = .ok (.iload_n 3, 1) := by decide +kernel
theorem dX12_keeps_45 : decode cX12_keeps 45 = .ok (.iadd, 1) := by decide +kernel
theorem dX12_keeps_46 : decode cX12_keeps 46 = .ok (.aload_n 0, 1) := by decide +kernel
theorem dX12_keeps_47 : decode cX12_keeps 47 = .ok (.getfield 9, 3) := by decide +kernel
theorem dX12_keeps_50 : decode cX12_keeps 50 = .ok (.iload_n 3, 1) := by decide +kernel
theorem dX12_keeps_51 : decode cX12_keeps 51 = .ok (.baload, 1) := by decide +kernel
theorem dX12_keeps_52 : decode cX12_keeps 52 = .ok (.bastore, 1) := by decide +kernel
theorem dX12_keeps_53 : decode cX12_keeps 53 = .ok (.iinc 3 1, 3) := by decide +kernel
theorem dX12_keeps_56 : decode cX12_keeps 56 = .ok (.goto (-29), 3) := by decide +kernel
theorem dX12_keeps_59 : decode cX12_keeps 59 = .ok (.aload_n 0, 1) := by decide +kernel
theorem dX12_keeps_60 : decode cX12_keeps 60 = .ok (.getfield 48, 3) := by decide +kernel
theorem dX12_keeps_63 : decode cX12_keeps 63 = .ok (.iload_n 1, 1) := by decide +kernel
theorem dX12_keeps_64 : decode cX12_keeps 64 = .ok (.aload_n 0, 1) := by decide +kernel
theorem dX12_keeps_65 : decode cX12_keeps 65 = .ok (.getfield 105, 3) := by decide +kernel
theorem dX12_keeps_68 : decode cX12_keeps 68 = .ok (.iastore, 1) := by decide +kernel
theorem dX12_keeps_69 : decode cX12_keeps 69 = .ok (.aload_n 0, 1) := by decide +kernel
theorem dX12_keeps_70 : decode cX12_keeps 70 = .ok (.iconst 0, 1) := by decide +kernel
theorem dX12_keeps_71 : decode cX12_keeps 71 = .ok (.putfield 105, 3) := by decide +kernel
theorem dX12_keeps_74 : decode cX12_keeps 74 = .ok (.iconst 1, 1) := by decide +kernel
theorem dX12_keeps_75 : decode cX12_keeps 75 = .ok (.ireturn, 1) := by decide +kernel
theorem dX12_law_0 : decode cX12_law 0 = .ok (.aload_n 0, 1) := by decide +kernel
theorem dX12_law_1 : decode cX12_law 1 = .ok (.iconst 0, 1) := by decide +kernel
theorem dX12_law_2 : decode cX12_law 2 = .ok (.putfield 101, 3) := by decide +kernel
theorem dX12_law_5 : decode cX12_law 5 = .ok (.aload_n 0, 1) := by decide +kernel
theorem dX12_law_6 : decode cX12_law 6 = .ok (.getfield 309, 3) := by decide +kernel
theorem dX12_law_9 : decode cX12_law 9 = .ok (.bipush 12, 2) := by decide +kernel
theorem dX12_law_11 : decode cX12_law 11 = .ok (.if_icmp .eq 15, 3) := by decide +kernel
theorem dX12_law_14 : decode cX12_law 14 = .ok (.aload_n 0, 1) := by decide +kernel
theorem dX12_law_15 : decode cX12_law 15 = .ok (.aload_n 0, 1) := by decide +kernel
theorem dX12_law_16 : decode cX12_law 16 = .ok (.getfield 309, 3) := by decide +kernel
theorem dX12_law_19 : decode cX12_law 19 = .ok (.iconst 0, 1) := by decide +kernel
theorem dX12_law_20 : decode cX12_law 20 = .ok (.invokevirtual 312, 3) := by decide +kernel
theorem dX12_law_23 : decode cX12_law 23 = .ok (.ifCond .ne 5, 3) := by decide +kernel
theorem dX12_law_26 : decode cX12_law 26 = .ok (.iconst (-1), 1) := by decide +kernel
theorem dX12_law_27 : decode cX12_law 27 = .ok (.ireturn, 1) := by decide +kernel
theorem dX12_law_28 : decode cX12_law 28 = .ok (.aload_n 0, 1) := by decide +kernel
theorem dX12_law_29 : decode cX12_law 29 = .ok (.dup, 1) := by decide +kernel
theorem dX12_law_30 : decode cX12_law 30 = .ok (.getfield 309, 3) := by decide +kernel
theorem dX12_law_33 : decode cX12_law 33 = .ok (.iconst 1, 1) := by decide +kernel
theorem dX12_law_34 : decode cX12_law 34 = .ok (.iadd, 1) := by decide +kernel
theorem dX12_law_35 : decode cX12_law 35 = .ok (.putfield 309, 3) := by decide +kernel
theorem dX12_law_38 : decode cX12_law 38 = .ok (.aload_n 0, 1) := by decide +kernel
theorem dX12_law_39 : decode cX12_law 39 = .ok (.getfield 309, 3) := by decide +kernel
theorem dX12_law_42 : decode cX12_law 42 = .ok (.iconst 1, 1) := by decide +kernel
theorem dX12_law_43 : decode cX12_law 43 = .ok (.isub, 1) := by decide +kernel
theorem dX12_law_44 : decode cX12_law 44 = .ok (.ireturn, 1) := by decide +kernel
theorem dX12_giant_0 : decode cX12_giant 0 = .ok (.aload_n 0, 1) := by decide +kernel
theorem dX12_giant_1 : decode cX12_giant 1 = .ok (.iconst 0, 1) := by decide +kernel
theorem dX12_giant_2 : decode cX12_giant 2 = .ok (.putfield 101, 3) := by decide +kernel
theorem dX12_giant_5 : decode cX12_giant 5 = .ok (.aload_n 0, 1) := by decide +kernel
theorem dX12_giant_6 : decode cX12_giant 6 = .ok (.getfield 316, 3) := by decide +kernel
theorem dX12_giant_9 : decode cX12_giant 9 = .ok (.bipush 12, 2) := by decide +kernel
theorem dX12_giant_11 : decode cX12_giant 11 = .ok (.if_icmp .eq 18, 3) := by decide +kernel
theorem dX12_giant_14 : decode cX12_giant 14 = .ok (.aload_n 0, 1) := by decide +kernel
theorem dX12_giant_15 : decode cX12_giant 15 = .ok (.bipush 12, 2) := by decide +kernel
theorem dX12_giant_17 : decode cX12_giant 17 = .ok (.aload_n 0, 1) := by decide +kernel
theorem dX12_giant_18 : decode cX12_giant 18 = .ok (.getfield 316, 3) := by decide +kernel
theorem dX12_giant_21 : decode cX12_giant 21 = .ok (.iadd, 1) := by decide +kernel
theorem dX12_giant_22 : decode cX12_giant 22 = .ok (.iconst 1, 1) := by decide +kernel
theorem dX12_giant_23 : decode cX12_giant 23 = .ok (.invokevirtual 312, 3) := by decide +kernel
theorem dX12_giant_26 : decode cX12_giant 26 = .ok (.ifCond .ne 5, 3) := by decide +kernel
theorem dX12_giant_29 : decode cX12_giant 29 = .ok (.iconst (-1), 1) := by decide +kernel
theorem dX12_giant_30 : decode cX12_giant 30 = .ok (.ireturn, 1) := by decide +kernel
theorem dX12_giant_31 : decode cX12_giant 31 = .ok (.aload_n 0, 1) := by decide +kernel
theorem dX12_giant_32 : decode cX12_giant 32 = .ok (.dup, 1) := by decide +kernel
theorem dX12_giant_33 : decode cX12_giant 33 = .ok (.getfield 316, 3) := by decide +kernel
theorem dX12_giant_36 : decode cX12_giant 36 = .ok (.iconst 1, 1) := by decide +kernel
theorem dX12_giant_37 : decode cX12_giant 37 = .ok (.iadd, 1) := by decide +kernel
theorem dX12_giant_38 : decode cX12_giant 38 = .ok (.putfield 316, 3) := by decide +kernel
theorem dX12_giant_41 : decode cX12_giant 41 = .ok (.aload_n 0, 1) := by decide +kernel
theorem dX12_giant_42 : decode cX12_giant 42 = .ok (.getfield 316, 3) := by decide +kernel
theorem dX12_giant_45 : decode cX12_giant 45 = .ok (.iconst 1, 1) := by decide +kernel
theorem dX12_giant_46 : decode cX12_giant 46 = .ok (.isub, 1) := by decide +kernel
theorem dX12_giant_47 : decode cX12_giant 47 = .ok (.ireturn, 1) := by decide +kernel
theorem dX12_noLetters_0 : decode cX12_noLetters 0 = .ok (.iconst 0, 1) := by decide +kernel
theorem dX12_noLetters_1 : decode cX12_noLetters 1 = .ok (.istore_n 1, 1) := by decide +kernel
theorem dX12_noLetters_2 : decode cX12_noLetters 2 = .ok (.iload_n 1, 1) := by decide +kernel
theorem dX12_noLetters_3 : decode cX12_noLetters 3 = .ok (.sipush 128, 3) := by decide +kernel
theorem dX12_noLetters_6 : decode cX12_noLetters 6 = .ok (.if_icmp .ge 16, 3) := by decide +kernel
theorem dX12_noLetters_9 : decode cX12_noLetters 9 = .ok (.aload_n 0, 1) := by decide +kernel
theorem dX12_noLetters_10 : decode cX12_noLetters 10 = .ok (.getfield 51, 3) := by decide +kernel
theorem dX12_noLetters_13 : decode cX12_noLetters 13 = .ok (.iload_n 1, 1) := by decide +kernel
theorem dX12_noLetters_14 : decode cX12_noLetters 14 = .ok (.lconst 0, 1) := by decide +kernel
theorem dX12_noLetters_15 : decode cX12_noLetters 15 = .ok (.lastore, 1) := by decide +kernel
theorem dX12_noLetters_16 : decode cX12_noLetters 16 = .ok (.iinc 1 1, 3) := by decide +kernel
theorem dX12_noLetters_19 : decode cX12_noLetters 19 = .ok (.goto (-17), 3) := by decide +kernel
theorem dX12_noLetters_22 : decode cX12_noLetters 22 = .ok (.return_, 1) := by decide +kernel
theorem dX12_worthOf_0 : decode cX12_worthOf 0 = .ok (.aload_n 0, 1) := by decide +kernel
theorem dX12_worthOf_1 : decode cX12_worthOf 1 = .ok (.aload_n 0, 1) := by decide +kernel
theorem dX12_worthOf_2 : decode cX12_worthOf 2 = .ok (.getfield 45, 3) := by decide +kernel
theorem dX12_worthOf_5 : decode cX12_worthOf 5 = .ok (.sipush 200, 3) := by decide +kernel
theorem dX12_worthOf_8 : decode cX12_worthOf 8 = .ok (.iload_n 1, 1) := by decide +kernel
theorem dX12_worthOf_9 : decode cX12_worthOf 9 = .ok (.imul, 1) := by decide +kernel
theorem dX12_worthOf_10 : decode cX12_worthOf 10 = .ok (.aload_n 0, 1) := by decide +kernel
theorem dX12_worthOf_11 : decode cX12_worthOf 11 = .ok (.getfield 48, 3) := by decide +kernel
theorem dX12_worthOf_14 : decode cX12_worthOf 14 = .ok (.iload_n 1, 1) := by decide +kernel
theorem dX12_worthOf_15 : decode cX12_worthOf 15 = .ok (.iaload, 1) := by decide +kernel
theorem dX12_worthOf_16 : decode cX12_worthOf 16 = .ok (.iload_n 2, 1) := by decide +kernel
theorem dX12_worthOf_17 : decode cX12_worthOf 17 = .ok (.iload_n 3, 1) := by decide +kernel
theorem dX12_worthOf_18 : decode cX12_worthOf 18 = .ok (.invokevirtual 305, 3) := by decide +kernel
theorem dX12_worthOf_21 : decode cX12_worthOf 21 = .ok (.aload_n 0, 1) := by decide +kernel
theorem dX12_worthOf_22 : decode cX12_worthOf 22 = .ok (.getfield 294, 3) := by decide +kernel
theorem dX12_worthOf_25 : decode cX12_worthOf 25 = .ok (.lreturn, 1) := by decide +kernel
theorem dX12_lawWorth_0 : decode cX12_lawWorth 0 = .ok (.aload_n 0, 1) := by decide +kernel
theorem dX12_lawWorth_1 : decode cX12_lawWorth 1 = .ok (.invokevirtual 319, 3) := by decide +kernel
theorem dX12_lawWorth_4 : decode cX12_lawWorth 4 = .ok (.aload_n 0, 1) := by decide +kernel
theorem dX12_lawWorth_5 : decode cX12_lawWorth 5 = .ok (.getfield 51, 3) := by decide +kernel
theorem dX12_lawWorth_8 : decode cX12_lawWorth 8 = .ok (.bipush 105, 2) := by decide +kernel
theorem dX12_lawWorth_10 : decode cX12_lawWorth 10 = .ok (.iload 4, 2) := by decide +kernel
theorem dX12_lawWorth_12 : decode cX12_lawWorth 12 = .ok (.i2l, 1) := by decide +kernel
theorem dX12_lawWorth_13 : decode cX12_lawWorth 13 = .ok (.lastore, 1) := by decide +kernel
theorem dX12_lawWorth_14 : decode cX12_lawWorth 14 = .ok (.aload_n 0, 1) := by decide +kernel
theorem dX12_lawWorth_15 : decode cX12_lawWorth 15 = .ok (.getfield 51, 3) := by decide +kernel
theorem dX12_lawWorth_18 : decode cX12_lawWorth 18 = .ok (.bipush 110, 2) := by decide +kernel
theorem dX12_lawWorth_20 : decode cX12_lawWorth 20 = .ok (.aload_n 0, 1) := by decide +kernel
theorem dX12_lawWorth_21 : decode cX12_lawWorth 21 = .ok (.getfield 23, 3) := by decide +kernel
theorem dX12_lawWorth_24 : decode cX12_lawWorth 24 = .ok (.iload_n 2, 1) := by decide +kernel
theorem dX12_lawWorth_25 : decode cX12_lawWorth 25 = .ok (.iaload, 1) := by decide +kernel
theorem dX12_lawWorth_26 : decode cX12_lawWorth 26 = .ok (.i2l, 1) := by decide +kernel
theorem dX12_lawWorth_27 : decode cX12_lawWorth 27 = .ok (.lastore, 1) := by decide +kernel
theorem dX12_lawWorth_28 : decode cX12_lawWorth 28 = .ok (.aload_n 0, 1) := by decide +kernel
theorem dX12_lawWorth_29 : decode cX12_lawWorth 29 = .ok (.getfield 51, 3) := by decide +kernel
theorem dX12_lawWorth_32 : decode cX12_lawWorth 32 = .ok (.bipush 112, 2) := by decide +kernel
theorem dX12_lawWorth_34 : decode cX12_lawWorth 34 = .ok (.iload_n 3, 1) := by decide +kernel
theorem dX12_lawWorth_35 : decode cX12_lawWorth 35 = .ok (.i2l, 1) := by decide +kernel
theorem dX12_lawWorth_36 : decode cX12_lawWorth 36 = .ok (.lastore, 1) := by decide +kernel
theorem dX12_lawWorth_37 : decode cX12_lawWorth 37 = .ok (.aload_n 0, 1) := by decide +kernel
theorem dX12_lawWorth_38 : decode cX12_lawWorth 38 = .ok (.getfield 51, 3) := by decide +kernel
theorem dX12_lawWorth_41 : decode cX12_lawWorth 41 = .ok (.bipush 107, 2) := by decide +kernel
theorem dX12_lawWorth_43 : decode cX12_lawWorth 43 = .ok (.iload 4, 2) := by decide +kernel
theorem dX12_lawWorth_45 : decode cX12_lawWorth 45 = .ok (.aload_n 0, 1) := by decide +kernel
theorem dX12_lawWorth_46 : decode cX12_lawWorth 46 = .ok (.getfield 23, 3) := by decide +kernel
theorem dX12_lawWorth_49 : decode cX12_lawWorth 49 = .ok (.iload_n 2, 1) := by decide +kernel
theorem dX12_lawWorth_50 : decode cX12_lawWorth 50 = .ok (.iaload, 1) := by decide +kernel
theorem dX12_lawWorth_51 : decode cX12_lawWorth 51 = .ok (.if_icmp .ge 19, 3) := by decide +kernel
theorem dX12_lawWorth_54 : decode cX12_lawWorth 54 = .ok (.aload_n 0, 1) := by decide +kernel
theorem dX12_lawWorth_55 : decode cX12_lawWorth 55 = .ok (.getfield 26, 3) := by decide +kernel
theorem dX12_lawWorth_58 : decode cX12_lawWorth 58 = .ok (.bipush 6, 2) := by decide +kernel
theorem dX12_lawWorth_60 : decode cX12_lawWorth 60 = .ok (.iload_n 2, 1) := by decide +kernel
theorem dX12_lawWorth_61 : decode cX12_lawWorth 61 = .ok (.imul, 1) := by decide +kernel
theorem dX12_lawWorth_62 : decode cX12_lawWorth 62 = .ok (.iload 4, 2) := by decide +kernel
theorem dX12_lawWorth_64 : decode cX12_lawWorth 64 = .ok (.iadd, 1) := by decide +kernel
theorem dX12_lawWorth_65 : decode cX12_lawWorth 65 = .ok (.iaload, 1) := by decide +kernel
theorem dX12_lawWorth_66 : decode cX12_lawWorth 66 = .ok (.i2l, 1) := by decide +kernel
theorem dX12_lawWorth_67 : decode cX12_lawWorth 67 = .ok (.goto 4, 3) := by decide +kernel
theorem dX12_lawWorth_70 : decode cX12_lawWorth 70 = .ok (.lconst 0, 1) := by decide +kernel
theorem dX12_lawWorth_71 : decode cX12_lawWorth 71 = .ok (.lastore, 1) := by decide +kernel
theorem dX12_lawWorth_72 : decode cX12_lawWorth 72 = .ok (.aload_n 0, 1) := by decide +kernel
theorem dX12_lawWorth_73 : decode cX12_lawWorth 73 = .ok (.iload_n 1, 1) := by decide +kernel
theorem dX12_lawWorth_74 : decode cX12_lawWorth 74 = .ok (.iconst 0, 1) := by decide +kernel
theorem dX12_lawWorth_75 : decode cX12_lawWorth 75 = .ok (.iload 5, 2) := by decide +kernel
theorem dX12_lawWorth_77 : decode cX12_lawWorth 77 = .ok (.invokevirtual 322, 3) := by decide +kernel
theorem dX12_lawWorth_80 : decode cX12_lawWorth 80 = .ok (.lreturn, 1) := by decide +kernel
theorem dX12_asksSum_0 : decode cX12_asksSum 0 = .ok (.aload_n 0, 1) := by decide +kernel
theorem dX12_asksSum_1 : decode cX12_asksSum 1 = .ok (.iload_n 1, 1) := by decide +kernel
theorem dX12_asksSum_2 : decode cX12_asksSum 2 = .ok (.iload_n 2, 1) := by decide +kernel
theorem dX12_asksSum_3 : decode cX12_asksSum 3 = .ok (.iload_n 3, 1) := by decide +kernel
theorem dX12_asksSum_4 : decode cX12_asksSum 4 = .ok (.iload 4, 2) := by decide +kernel
theorem dX12_asksSum_6 : decode cX12_asksSum 6 = .ok (.bipush 99, 2) := by decide +kernel
theorem dX12_asksSum_8 : decode cX12_asksSum 8 = .ok (.invokevirtual 326, 3) := by decide +kernel
theorem dX12_asksSum_11 : decode cX12_asksSum 11 = .ok (.lconst 0, 1) := by decide +kernel
theorem dX12_asksSum_12 : decode cX12_asksSum 12 = .ok (.lcmp, 1) := by decide +kernel
theorem dX12_asksSum_13 : decode cX12_asksSum 13 = .ok (.ifCond .eq 7, 3) := by decide +kernel
theorem dX12_asksSum_16 : decode cX12_asksSum 16 = .ok (.iconst 1, 1) := by decide +kernel
theorem dX12_asksSum_17 : decode cX12_asksSum 17 = .ok (.goto 4, 3) := by decide +kernel
theorem dX12_asksSum_20 : decode cX12_asksSum 20 = .ok (.iconst 0, 1) := by decide +kernel
theorem dX12_asksSum_21 : decode cX12_asksSum 21 = .ok (.ireturn, 1) := by decide +kernel
theorem dX12_asksEnd_0 : decode cX12_asksEnd 0 = .ok (.aload_n 0, 1) := by decide +kernel
theorem dX12_asksEnd_1 : decode cX12_asksEnd 1 = .ok (.iload_n 1, 1) := by decide +kernel
theorem dX12_asksEnd_2 : decode cX12_asksEnd 2 = .ok (.iload_n 2, 1) := by decide +kernel
theorem dX12_asksEnd_3 : decode cX12_asksEnd 3 = .ok (.iload_n 3, 1) := by decide +kernel
theorem dX12_asksEnd_4 : decode cX12_asksEnd 4 = .ok (.aload_n 0, 1) := by decide +kernel
theorem dX12_asksEnd_5 : decode cX12_asksEnd 5 = .ok (.getfield 23, 3) := by decide +kernel
theorem dX12_asksEnd_8 : decode cX12_asksEnd 8 = .ok (.iload_n 2, 1) := by decide +kernel
theorem dX12_asksEnd_9 : decode cX12_asksEnd 9 = .ok (.iaload, 1) := by decide +kernel
theorem dX12_asksEnd_10 : decode cX12_asksEnd 10 = .ok (.bipush 101, 2) := by decide +kernel
theorem dX12_asksEnd_12 : decode cX12_asksEnd 12 = .ok (.invokevirtual 326, 3) := by decide +kernel
theorem dX12_asksEnd_15 : decode cX12_asksEnd 15 = .ok (.lconst 0, 1) := by decide +kernel
theorem dX12_asksEnd_16 : decode cX12_asksEnd 16 = .ok (.lcmp, 1) := by decide +kernel
theorem dX12_asksEnd_17 : decode cX12_asksEnd 17 = .ok (.ifCond .eq 7, 3) := by decide +kernel
theorem dX12_asksEnd_20 : decode cX12_asksEnd 20 = .ok (.iconst 1, 1) := by decide +kernel
theorem dX12_asksEnd_21 : decode cX12_asksEnd 21 = .ok (.goto 4, 3) := by decide +kernel
theorem dX12_asksEnd_24 : decode cX12_asksEnd 24 = .ok (.iconst 0, 1) := by decide +kernel
theorem dX12_asksEnd_25 : decode cX12_asksEnd 25 = .ok (.ireturn, 1) := by decide +kernel
theorem dX12_draws_0 : decode cX12_draws 0 = .ok (.lconst 1, 1) := by decide +kernel
theorem dX12_draws_1 : decode cX12_draws 1 = .ok (.iload_n 3, 1) := by decide +kernel
theorem dX12_draws_2 : decode cX12_draws 2 = .ok (.i2l, 1) := by decide +kernel
theorem dX12_draws_3 : decode cX12_draws 3 = .ok (.aload_n 0, 1) := by decide +kernel
theorem dX12_draws_4 : decode cX12_draws 4 = .ok (.iload_n 1, 1) := by decide +kernel
theorem dX12_draws_5 : decode cX12_draws 5 = .ok (.iload_n 2, 1) := by decide +kernel
theorem dX12_draws_6 : decode cX12_draws 6 = .ok (.iload_n 3, 1) := by decide +kernel
theorem dX12_draws_7 : decode cX12_draws 7 = .ok (.iload 4, 2) := by decide +kernel
theorem dX12_draws_9 : decode cX12_draws 9 = .ok (.bipush 100, 2) := by decide +kernel
theorem dX12_draws_11 : decode cX12_draws 11 = .ok (.invokevirtual 326, 3) := by decide +kernel
theorem dX12_draws_14 : decode cX12_draws 14 = .ok (.invokestatic 240, 3) := by decide +kernel
theorem dX12_draws_17 : decode cX12_draws 17 = .ok (.invokestatic 243, 3) := by decide +kernel
theorem dX12_draws_20 : decode cX12_draws 20 = .ok (.l2i, 1) := by decide +kernel
theorem dX12_draws_21 : decode cX12_draws 21 = .ok (.ireturn, 1) := by decide +kernel
theorem dX12_isTalk_0 : decode cX12_isTalk 0 = .ok (.iload_n 1, 1) := by decide +kernel
theorem dX12_isTalk_1 : decode cX12_isTalk 1 = .ok (.ifCond .lt 15, 3) := by decide +kernel
theorem dX12_isTalk_4 : decode cX12_isTalk 4 = .ok (.iload_n 1, 1) := by decide +kernel
theorem dX12_isTalk_5 : decode cX12_isTalk 5 = .ok (.aload_n 0, 1) := by decide +kernel
theorem dX12_isTalk_6 : decode cX12_isTalk 6 = .ok (.getfield 330, 3) := by decide +kernel
theorem dX12_isTalk_9 : decode cX12_isTalk 9 = .ok (.if_icmp .ge 7, 3) := by decide +kernel
theorem dX12_isTalk_12 : decode cX12_isTalk 12 = .ok (.iconst 1, 1) := by decide +kernel
theorem dX12_isTalk_13 : decode cX12_isTalk 13 = .ok (.goto 4, 3) := by decide +kernel
theorem dX12_isTalk_16 : decode cX12_isTalk 16 = .ok (.iconst 0, 1) := by decide +kernel
theorem dX12_isTalk_17 : decode cX12_isTalk 17 = .ok (.ireturn, 1) := by decide +kernel
theorem dX12_talk_0 : decode cX12_talk 0 = .ok (.aload_n 0, 1) := by decide +kernel
theorem dX12_talk_1 : decode cX12_talk 1 = .ok (.iconst 0, 1) := by decide +kernel
theorem dX12_talk_2 : decode cX12_talk 2 = .ok (.putfield 101, 3) := by decide +kernel
theorem dX12_talk_5 : decode cX12_talk 5 = .ok (.aload_n 0, 1) := by decide +kernel
theorem dX12_talk_6 : decode cX12_talk 6 = .ok (.getfield 330, 3) := by decide +kernel
theorem dX12_talk_9 : decode cX12_talk 9 = .ok (.bipush 12, 2) := by decide +kernel
theorem dX12_talk_11 : decode cX12_talk 11 = .ok (.if_icmp .eq 51, 3) := by decide +kernel
theorem dX12_talk_14 : decode cX12_talk 14 = .ok (.aload_n 0, 1) := by decide +kernel
theorem dX12_talk_15 : decode cX12_talk 15 = .ok (.iload_n 1, 1) := by decide +kernel
theorem dX12_talk_16 : decode cX12_talk 16 = .ok (.invokevirtual 194, 3) := by decide +kernel
theorem dX12_talk_19 : decode cX12_talk 19 = .ok (.ifCond .eq 43, 3) := by decide +kernel
theorem dX12_talk_22 : decode cX12_talk 22 = .ok (.iload_n 2, 1) := by decide +kernel
theorem dX12_talk_23 : decode cX12_talk 23 = .ok (.invokestatic 222, 3) := by decide +kernel
theorem dX12_talk_26 : decode cX12_talk 26 = .ok (.ifCond .eq 36, 3) := by decide +kernel
theorem dX12_talk_29 : decode cX12_talk 29 = .ok (.iload_n 3, 1) := by decide +kernel
theorem dX12_talk_30 : decode cX12_talk 30 = .ok (.i2l, 1) := by decide +kernel
theorem dX12_talk_31 : decode cX12_talk 31 = .ok (.lconst 0, 1) := by decide +kernel
theorem dX12_talk_32 : decode cX12_talk 32 = .ok (.aload_n 0, 1) := by decide +kernel
theorem dX12_talk_33 : decode cX12_talk 33 = .ok (.getfield 309, 3) := by decide +kernel
theorem dX12_talk_36 : decode cX12_talk 36 = .ok (.iconst 1, 1) := by decide +kernel
theorem dX12_talk_37 : decode cX12_talk 37 = .ok (.isub, 1) := by decide +kernel
theorem dX12_talk_38 : decode cX12_talk 38 = .ok (.i2l, 1) := by decide +kernel
theorem dX12_talk_39 : decode cX12_talk 39 = .ok (.invokestatic 199, 3) := by decide +kernel
theorem dX12_talk_42 : decode cX12_talk 42 = .ok (.ifCond .eq 20, 3) := by decide +kernel
theorem dX12_talk_45 : decode cX12_talk 45 = .ok (.iload 4, 2) := by decide +kernel
theorem dX12_talk_47 : decode cX12_talk 47 = .ok (.i2l, 1) := by decide +kernel
theorem dX12_talk_48 : decode cX12_talk 48 = .ok (.lconst 0, 1) := by decide +kernel
theorem dX12_talk_49 : decode cX12_talk 49 = .ok (.aload_n 0, 1) := by decide +kernel
theorem dX12_talk_50 : decode cX12_talk 50 = .ok (.getfield 316, 3) := by decide +kernel
theorem dX12_talk_53 : decode cX12_talk 53 = .ok (.iconst 1, 1) := by decide +kernel
theorem dX12_talk_54 : decode cX12_talk 54 = .ok (.isub, 1) := by decide +kernel
theorem dX12_talk_55 : decode cX12_talk 55 = .ok (.i2l, 1) := by decide +kernel
theorem dX12_talk_56 : decode cX12_talk 56 = .ok (.invokestatic 199, 3) := by decide +kernel
theorem dX12_talk_59 : decode cX12_talk 59 = .ok (.ifCond .ne 5, 3) := by decide +kernel
theorem dX12_talk_62 : decode cX12_talk 62 = .ok (.iconst (-1), 1) := by decide +kernel
theorem dX12_talk_63 : decode cX12_talk 63 = .ok (.ireturn, 1) := by decide +kernel
theorem dX12_talk_64 : decode cX12_talk 64 = .ok (.iconst 0, 1) := by decide +kernel
theorem dX12_talk_65 : decode cX12_talk 65 = .ok (.istore 5, 2) := by decide +kernel
theorem dX12_talk_67 : decode cX12_talk 67 = .ok (.iload 5, 2) := by decide +kernel
theorem dX12_talk_69 : decode cX12_talk 69 = .ok (.aload_n 0, 1) := by decide +kernel
theorem dX12_talk_70 : decode cX12_talk 70 = .ok (.getfield 23, 3) := by decide +kernel
theorem dX12_talk_73 : decode cX12_talk 73 = .ok (.iload_n 1, 1) := by decide +kernel
theorem dX12_talk_74 : decode cX12_talk 74 = .ok (.iaload, 1) := by decide +kernel
theorem dX12_talk_75 : decode cX12_talk 75 = .ok (.if_icmp .ge 27, 3) := by decide +kernel
theorem dX12_talk_78 : decode cX12_talk 78 = .ok (.aload_n 0, 1) := by decide +kernel
theorem dX12_talk_79 : decode cX12_talk 79 = .ok (.getfield 26, 3) := by decide +kernel
theorem dX12_talk_82 : decode cX12_talk 82 = .ok (.bipush 6, 2) := by decide +kernel
theorem dX12_talk_84 : decode cX12_talk 84 = .ok (.iload_n 1, 1) := by decide +kernel
theorem dX12_talk_85 : decode cX12_talk 85 = .ok (.imul, 1) := by decide +kernel
theorem dX12_talk_86 : decode cX12_talk 86 = .ok (.iload 5, 2) := by decide +kernel
theorem dX12_talk_88 : decode cX12_talk 88 = .ok (.iadd, 1) := by decide +kernel
theorem dX12_talk_89 : decode cX12_talk 89 = .ok (.iaload, 1) := by decide +kernel
theorem dX12_talk_90 : decode cX12_talk 90 = .ok (.iload_n 2, 1) := by decide +kernel
theorem dX12_talk_91 : decode cX12_talk 91 = .ok (.if_icmp .lt 5, 3) := by decide +kernel
theorem dX12_talk_94 : decode cX12_talk 94 = .ok (.iconst (-1), 1) := by decide +kernel
theorem dX12_talk_95 : decode cX12_talk 95 = .ok (.ireturn, 1) := by decide +kernel
theorem dX12_talk_96 : decode cX12_talk 96 = .ok (.iinc 5 1, 3) := by decide +kernel
theorem dX12_talk_99 : decode cX12_talk 99 = .ok (.goto (-32), 3) := by decide +kernel
theorem dX12_talk_102 : decode cX12_talk 102 = .ok (.aload_n 0, 1) := by decide +kernel
theorem dX12_talk_103 : decode cX12_talk 103 = .ok (.getfield 65, 3) := by decide +kernel
theorem dX12_talk_106 : decode cX12_talk 106 = .ok (.aload_n 0, 1) := by decide +kernel
theorem dX12_talk_107 : decode cX12_talk 107 = .ok (.getfield 330, 3) := by decide +kernel
theorem dX12_talk_110 : decode cX12_talk 110 = .ok (.iload_n 1, 1) := by decide +kernel
theorem dX12_talk_111 : decode cX12_talk 111 = .ok (.iastore, 1) := by decide +kernel
theorem dX12_talk_112 : decode cX12_talk 112 = .ok (.aload_n 0, 1) := by decide +kernel
theorem dX12_talk_113 : decode cX12_talk 113 = .ok (.getfield 68, 3) := by decide +kernel
theorem dX12_talk_116 : decode cX12_talk 116 = .ok (.aload_n 0, 1) := by decide +kernel
theorem dX12_talk_117 : decode cX12_talk 117 = .ok (.getfield 330, 3) := by decide +kernel
theorem dX12_talk_120 : decode cX12_talk 120 = .ok (.iload_n 2, 1) := by decide +kernel
theorem dX12_talk_121 : decode cX12_talk 121 = .ok (.iastore, 1) := by decide +kernel
theorem dX12_talk_122 : decode cX12_talk 122 = .ok (.aload_n 0, 1) := by decide +kernel
theorem dX12_talk_123 : decode cX12_talk 123 = .ok (.getfield 71, 3) := by decide +kernel
theorem dX12_talk_126 : decode cX12_talk 126 = .ok (.aload_n 0, 1) := by decide +kernel
theorem dX12_talk_127 : decode cX12_talk 127 = .ok (.getfield 330, 3) := by decide +kernel
theorem dX12_talk_130 : decode cX12_talk 130 = .ok (.iload_n 3, 1) := by decide +kernel
theorem dX12_talk_131 : decode cX12_talk 131 = .ok (.iastore, 1) := by decide +kernel
theorem dX12_talk_132 : decode cX12_talk 132 = .ok (.aload_n 0, 1) := by decide +kernel
theorem dX12_talk_133 : decode cX12_talk 133 = .ok (.getfield 74, 3) := by decide +kernel
theorem dX12_talk_136 : decode cX12_talk 136 = .ok (.aload_n 0, 1) := by decide +kernel
theorem dX12_talk_137 : decode cX12_talk 137 = .ok (.getfield 330, 3) := by decide +kernel
theorem dX12_talk_140 : decode cX12_talk 140 = .ok (.iload 4, 2) := by decide +kernel
theorem dX12_talk_142 : decode cX12_talk 142 = .ok (.iastore, 1) := by decide +kernel
theorem dX12_talk_143 : decode cX12_talk 143 = .ok (.aload_n 0, 1) := by decide +kernel
theorem dX12_talk_144 : decode cX12_talk 144 = .ok (.dup, 1) := by decide +kernel
theorem dX12_talk_145 : decode cX12_talk 145 = .ok (.getfield 330, 3) := by decide +kernel
theorem dX12_talk_148 : decode cX12_talk 148 = .ok (.iconst 1, 1) := by decide +kernel
theorem dX12_talk_149 : decode cX12_talk 149 = .ok (.iadd, 1) := by decide +kernel
theorem dX12_talk_150 : decode cX12_talk 150 = .ok (.putfield 330, 3) := by decide +kernel
theorem dX12_talk_153 : decode cX12_talk 153 = .ok (.aload_n 0, 1) := by decide +kernel
theorem dX12_talk_154 : decode cX12_talk 154 = .ok (.getfield 330, 3) := by decide +kernel
theorem dX12_talk_157 : decode cX12_talk 157 = .ok (.iconst 1, 1) := by decide +kernel
theorem dX12_talk_158 : decode cX12_talk 158 = .ok (.isub, 1) := by decide +kernel
theorem dX12_talk_159 : decode cX12_talk 159 = .ok (.ireturn, 1) := by decide +kernel
theorem dX12_firstClaim_0 : decode cX12_firstClaim 0 = .ok (.aload_n 0, 1) := by decide +kernel
theorem dX12_firstClaim_1 : decode cX12_firstClaim 1 = .ok (.getfield 65, 3) := by decide +kernel
theorem dX12_firstClaim_4 : decode cX12_firstClaim 4 = .ok (.iload_n 1, 1) := by decide +kernel
theorem dX12_firstClaim_5 : decode cX12_firstClaim 5 = .ok (.iaload, 1) := by decide +kernel
theorem dX12_firstClaim_6 : decode cX12_firstClaim 6 = .ok (.istore_n 3, 1) := by decide +kernel
theorem dX12_firstClaim_7 : decode cX12_firstClaim 7 = .ok (.aload_n 0, 1) := by decide +kernel
theorem dX12_firstClaim_8 : decode cX12_firstClaim 8 = .ok (.getfield 68, 3) := by decide +kernel
theorem dX12_firstClaim_11 : decode cX12_firstClaim 11 = .ok (.iload_n 1, 1) := by decide +kernel
theorem dX12_firstClaim_12 : decode cX12_firstClaim 12 = .ok (.iaload, 1) := by decide +kernel
theorem dX12_firstClaim_13 : decode cX12_firstClaim 13 = .ok (.istore 4, 2) := by decide +kernel
theorem dX12_firstClaim_15 : decode cX12_firstClaim 15 = .ok (.aload_n 0, 1) := by decide +kernel
theorem dX12_firstClaim_16 : decode cX12_firstClaim 16 = .ok (.invokevirtual 319, 3) := by decide +kernel
theorem dX12_firstClaim_19 : decode cX12_firstClaim 19 = .ok (.aload_n 0, 1) := by decide +kernel
theorem dX12_firstClaim_20 : decode cX12_firstClaim 20 = .ok (.getfield 51, 3) := by decide +kernel
theorem dX12_firstClaim_23 : decode cX12_firstClaim 23 = .ok (.bipush 116, 2) := by decide +kernel
theorem dX12_firstClaim_25 : decode cX12_firstClaim 25 = .ok (.aload_n 0, 1) := by decide +kernel
theorem dX12_firstClaim_26 : decode cX12_firstClaim 26 = .ok (.iload_n 3, 1) := by decide +kernel
theorem dX12_firstClaim_27 : decode cX12_firstClaim 27 = .ok (.invokevirtual 203, 3) := by decide +kernel
theorem dX12_firstClaim_30 : decode cX12_firstClaim 30 = .ok (.iload 4, 2) := by decide +kernel
theorem dX12_firstClaim_32 : decode cX12_firstClaim 32 = .ok (.irem, 1) := by decide +kernel
theorem dX12_firstClaim_33 : decode cX12_firstClaim 33 = .ok (.i2l, 1) := by decide +kernel
theorem dX12_firstClaim_34 : decode cX12_firstClaim 34 = .ok (.lastore, 1) := by decide +kernel
theorem dX12_firstClaim_35 : decode cX12_firstClaim 35 = .ok (.aload_n 0, 1) := by decide +kernel
theorem dX12_firstClaim_36 : decode cX12_firstClaim 36 = .ok (.getfield 51, 3) := by decide +kernel
theorem dX12_firstClaim_39 : decode cX12_firstClaim 39 = .ok (.bipush 99, 2) := by decide +kernel
theorem dX12_firstClaim_41 : decode cX12_firstClaim 41 = .ok (.aload_n 0, 1) := by decide +kernel
theorem dX12_firstClaim_42 : decode cX12_firstClaim 42 = .ok (.getfield 51, 3) := by decide +kernel
theorem dX12_firstClaim_45 : decode cX12_firstClaim 45 = .ok (.bipush 116, 2) := by decide +kernel
theorem dX12_firstClaim_47 : decode cX12_firstClaim 47 = .ok (.laload, 1) := by decide +kernel
theorem dX12_firstClaim_48 : decode cX12_firstClaim 48 = .ok (.lastore, 1) := by decide +kernel
theorem dX12_firstClaim_49 : decode cX12_firstClaim 49 = .ok (.aload_n 0, 1) := by decide +kernel
theorem dX12_firstClaim_50 : decode cX12_firstClaim 50 = .ok (.getfield 51, 3) := by decide +kernel
theorem dX12_firstClaim_53 : decode cX12_firstClaim 53 = .ok (.bipush 119, 2) := by decide +kernel
theorem dX12_firstClaim_55 : decode cX12_firstClaim 55 = .ok (.aload_n 0, 1) := by decide +kernel
theorem dX12_firstClaim_56 : decode cX12_firstClaim 56 = .ok (.getfield 51, 3) := by decide +kernel
theorem dX12_firstClaim_59 : decode cX12_firstClaim 59 = .ok (.bipush 116, 2) := by decide +kernel
theorem dX12_firstClaim_61 : decode cX12_firstClaim 61 = .ok (.laload, 1) := by decide +kernel
theorem dX12_firstClaim_62 : decode cX12_firstClaim 62 = .ok (.lastore, 1) := by decide +kernel
theorem dX12_firstClaim_63 : decode cX12_firstClaim 63 = .ok (.aload_n 0, 1) := by decide +kernel
theorem dX12_firstClaim_64 : decode cX12_firstClaim 64 = .ok (.getfield 51, 3) := by decide +kernel
theorem dX12_firstClaim_67 : decode cX12_firstClaim 67 = .ok (.bipush 110, 2) := by decide +kernel
theorem dX12_firstClaim_69 : decode cX12_firstClaim 69 = .ok (.aload_n 0, 1) := by decide +kernel
theorem dX12_firstClaim_70 : decode cX12_firstClaim 70 = .ok (.getfield 23, 3) := by decide +kernel
theorem dX12_firstClaim_73 : decode cX12_firstClaim 73 = .ok (.iload_n 3, 1) := by decide +kernel
theorem dX12_firstClaim_74 : decode cX12_firstClaim 74 = .ok (.iaload, 1) := by decide +kernel
theorem dX12_firstClaim_75 : decode cX12_firstClaim 75 = .ok (.i2l, 1) := by decide +kernel
theorem dX12_firstClaim_76 : decode cX12_firstClaim 76 = .ok (.lastore, 1) := by decide +kernel
theorem dX12_firstClaim_77 : decode cX12_firstClaim 77 = .ok (.aload_n 0, 1) := by decide +kernel
theorem dX12_firstClaim_78 : decode cX12_firstClaim 78 = .ok (.getfield 51, 3) := by decide +kernel
theorem dX12_firstClaim_81 : decode cX12_firstClaim 81 = .ok (.bipush 112, 2) := by decide +kernel
theorem dX12_firstClaim_83 : decode cX12_firstClaim 83 = .ok (.iload 4, 2) := by decide +kernel
theorem dX12_firstClaim_85 : decode cX12_firstClaim 85 = .ok (.i2l, 1) := by decide +kernel
theorem dX12_firstClaim_86 : decode cX12_firstClaim 86 = .ok (.lastore, 1) := by decide +kernel
theorem dX12_firstClaim_87 : decode cX12_firstClaim 87 = .ok (.aload_n 0, 1) := by decide +kernel
theorem dX12_firstClaim_88 : decode cX12_firstClaim 88 = .ok (.getfield 51, 3) := by decide +kernel
theorem dX12_firstClaim_91 : decode cX12_firstClaim 91 = .ok (.bipush 121, 2) := by decide +kernel
theorem dX12_firstClaim_93 : decode cX12_firstClaim 93 = .ok (.iload_n 2, 1) := by decide +kernel
theorem dX12_firstClaim_94 : decode cX12_firstClaim 94 = .ok (.i2l, 1) := by decide +kernel
theorem dX12_firstClaim_95 : decode cX12_firstClaim 95 = .ok (.lastore, 1) := by decide +kernel
theorem dX12_firstClaim_96 : decode cX12_firstClaim 96 = .ok (.aload_n 0, 1) := by decide +kernel
theorem dX12_firstClaim_97 : decode cX12_firstClaim 97 = .ok (.bipush 12, 2) := by decide +kernel
theorem dX12_firstClaim_99 : decode cX12_firstClaim 99 = .ok (.aload_n 0, 1) := by decide +kernel
theorem dX12_firstClaim_100 : decode cX12_firstClaim 100 = .ok (.getfield 74, 3) := by decide +kernel
theorem dX12_firstClaim_103 : decode cX12_firstClaim 103 = .ok (.iload_n 1, 1) := by decide +kernel
theorem dX12_firstClaim_104 : decode cX12_firstClaim 104 = .ok (.iaload, 1) := by decide +kernel
theorem dX12_firstClaim_105 : decode cX12_firstClaim 105 = .ok (.iadd, 1) := by decide +kernel
theorem dX12_firstClaim_106 : decode cX12_firstClaim 106 = .ok (.iconst 1, 1) := by decide +kernel
theorem dX12_firstClaim_107 : decode cX12_firstClaim 107 = .ok (.bipush 115, 2) := by decide +kernel
theorem dX12_firstClaim_109 : decode cX12_firstClaim 109 = .ok (.invokevirtual 322, 3) := by decide +kernel
theorem dX12_firstClaim_112 : decode cX12_firstClaim 112 = .ok (.iload 4, 2) := by decide +kernel
theorem dX12_firstClaim_114 : decode cX12_firstClaim 114 = .ok (.i2l, 1) := by decide +kernel
theorem dX12_firstClaim_115 : decode cX12_firstClaim 115 = .ok (.invokestatic 180, 3) := by decide +kernel
theorem dX12_firstClaim_118 : decode cX12_firstClaim 118 = .ok (.lreturn, 1) := by decide +kernel
theorem dX12_trueAt_0 : decode cX12_trueAt 0 = .ok (.aload_n 0, 1) := by decide +kernel
theorem dX12_trueAt_1 : decode cX12_trueAt 1 = .ok (.getfield 68, 3) := by decide +kernel
theorem dX12_trueAt_4 : decode cX12_trueAt 4 = .ok (.iload_n 1, 1) := by decide +kernel
theorem dX12_trueAt_5 : decode cX12_trueAt 5 = .ok (.iaload, 1) := by decide +kernel
theorem dX12_trueAt_6 : decode cX12_trueAt 6 = .ok (.istore 4, 2) := by decide +kernel
theorem dX12_trueAt_8 : decode cX12_trueAt 8 = .ok (.iconst 0, 1) := by decide +kernel
theorem dX12_trueAt_9 : decode cX12_trueAt 9 = .ok (.istore 5, 2) := by decide +kernel
theorem dX12_trueAt_11 : decode cX12_trueAt 11 = .ok (.iload 5, 2) := by decide +kernel
theorem dX12_trueAt_13 : decode cX12_trueAt 13 = .ok (.iload_n 2, 1) := by decide +kernel
theorem dX12_trueAt_14 : decode cX12_trueAt 14 = .ok (.if_icmp .ge 23, 3) := by decide +kernel
theorem dX12_trueAt_17 : decode cX12_trueAt 17 = .ok (.aload_n 0, 1) := by decide +kernel
theorem dX12_trueAt_18 : decode cX12_trueAt 18 = .ok (.getfield 36, 3) := by decide +kernel
theorem dX12_trueAt_21 : decode cX12_trueAt 21 = .ok (.iload 5, 2) := by decide +kernel
theorem dX12_trueAt_23 : decode cX12_trueAt 23 = .ok (.aload_n 0, 1) := by decide +kernel
theorem dX12_trueAt_24 : decode cX12_trueAt 24 = .ok (.getfield 77, 3) := by decide +kernel
theorem dX12_trueAt_27 : decode cX12_trueAt 27 = .ok (.iload 5, 2) := by decide +kernel
theorem dX12_trueAt_29 : decode cX12_trueAt 29 = .ok (.laload, 1) := by decide +kernel
theorem dX12_trueAt_30 : decode cX12_trueAt 30 = .ok (.lastore, 1) := by decide +kernel
theorem dX12_trueAt_31 : decode cX12_trueAt 31 = .ok (.iinc 5 1, 3) := by decide +kernel
theorem dX12_trueAt_34 : decode cX12_trueAt 34 = .ok (.goto (-23), 3) := by decide +kernel
theorem dX12_trueAt_37 : decode cX12_trueAt 37 = .ok (.aload_n 0, 1) := by decide +kernel
theorem dX12_trueAt_38 : decode cX12_trueAt 38 = .ok (.getfield 36, 3) := by decide +kernel
theorem dX12_trueAt_41 : decode cX12_trueAt 41 = .ok (.iload_n 2, 1) := by decide +kernel
theorem dX12_trueAt_42 : decode cX12_trueAt 42 = .ok (.iload_n 3, 1) := by decide +kernel
theorem dX12_trueAt_43 : decode cX12_trueAt 43 = .ok (.iload 4, 2) := by decide +kernel
theorem dX12_trueAt_45 : decode cX12_trueAt 45 = .ok (.irem, 1) := by decide +kernel
theorem dX12_trueAt_46 : decode cX12_trueAt 46 = .ok (.i2l, 1) := by decide +kernel
theorem dX12_trueAt_47 : decode cX12_trueAt 47 = .ok (.lastore, 1) := by decide +kernel
theorem dX12_trueAt_48 : decode cX12_trueAt 48 = .ok (.aload_n 0, 1) := by decide +kernel
theorem dX12_trueAt_49 : decode cX12_trueAt 49 = .ok (.aload_n 0, 1) := by decide +kernel
theorem dX12_trueAt_50 : decode cX12_trueAt 50 = .ok (.getfield 65, 3) := by decide +kernel
theorem dX12_trueAt_53 : decode cX12_trueAt 53 = .ok (.iload_n 1, 1) := by decide +kernel
theorem dX12_trueAt_54 : decode cX12_trueAt 54 = .ok (.iaload, 1) := by decide +kernel
theorem dX12_trueAt_55 : decode cX12_trueAt 55 = .ok (.iload_n 2, 1) := by decide +kernel
theorem dX12_trueAt_56 : decode cX12_trueAt 56 = .ok (.iconst 1, 1) := by decide +kernel
theorem dX12_trueAt_57 : decode cX12_trueAt 57 = .ok (.iadd, 1) := by decide +kernel
theorem dX12_trueAt_58 : decode cX12_trueAt 58 = .ok (.iload 4, 2) := by decide +kernel
theorem dX12_trueAt_60 : decode cX12_trueAt 60 = .ok (.i2l, 1) := by decide +kernel
theorem dX12_trueAt_61 : decode cX12_trueAt 61 = .ok (.invokevirtual 188, 3) := by decide +kernel
theorem dX12_trueAt_64 : decode cX12_trueAt 64 = .ok (.lreturn, 1) := by decide +kernel
theorem dX12_speaks_0 : decode cX12_speaks 0 = .ok (.aload_n 0, 1) := by decide +kernel
theorem dX12_speaks_1 : decode cX12_speaks 1 = .ok (.getfield 65, 3) := by decide +kernel
theorem dX12_speaks_4 : decode cX12_speaks 4 = .ok (.iload_n 1, 1) := by decide +kernel
theorem dX12_speaks_5 : decode cX12_speaks 5 = .ok (.iaload, 1) := by decide +kernel
theorem dX12_speaks_6 : decode cX12_speaks 6 = .ok (.istore 6, 2) := by decide +kernel
theorem dX12_speaks_8 : decode cX12_speaks 8 = .ok (.aload_n 0, 1) := by decide +kernel
theorem dX12_speaks_9 : decode cX12_speaks 9 = .ok (.getfield 68, 3) := by decide +kernel
theorem dX12_speaks_12 : decode cX12_speaks 12 = .ok (.iload_n 1, 1) := by decide +kernel
theorem dX12_speaks_13 : decode cX12_speaks 13 = .ok (.iaload, 1) := by decide +kernel
theorem dX12_speaks_14 : decode cX12_speaks 14 = .ok (.istore 7, 2) := by decide +kernel
theorem dX12_speaks_16 : decode cX12_speaks 16 = .ok (.aload_n 0, 1) := by decide +kernel
theorem dX12_speaks_17 : decode cX12_speaks 17 = .ok (.iload_n 1, 1) := by decide +kernel
theorem dX12_speaks_18 : decode cX12_speaks 18 = .ok (.iload_n 2, 1) := by decide +kernel
theorem dX12_speaks_19 : decode cX12_speaks 19 = .ok (.iconst 0, 1) := by decide +kernel
theorem dX12_speaks_20 : decode cX12_speaks 20 = .ok (.invokevirtual 333, 3) := by decide +kernel
theorem dX12_speaks_23 : decode cX12_speaks 23 = .ok (.aload_n 0, 1) := by decide +kernel
theorem dX12_speaks_24 : decode cX12_speaks 24 = .ok (.iload_n 1, 1) := by decide +kernel
theorem dX12_speaks_25 : decode cX12_speaks 25 = .ok (.iload_n 2, 1) := by decide +kernel
theorem dX12_speaks_26 : decode cX12_speaks 26 = .ok (.iconst 1, 1) := by decide +kernel
theorem dX12_speaks_27 : decode cX12_speaks 27 = .ok (.invokevirtual 333, 3) := by decide +kernel
theorem dX12_speaks_30 : decode cX12_speaks 30 = .ok (.ladd, 1) := by decide +kernel
theorem dX12_speaks_31 : decode cX12_speaks 31 = .ok (.iload 7, 2) := by decide +kernel
theorem dX12_speaks_33 : decode cX12_speaks 33 = .ok (.i2l, 1) := by decide +kernel
theorem dX12_speaks_34 : decode cX12_speaks 34 = .ok (.lrem, 1) := by decide +kernel
theorem dX12_speaks_35 : decode cX12_speaks 35 = .ok (.lstore 8, 2) := by decide +kernel
theorem dX12_speaks_37 : decode cX12_speaks 37 = .ok (.iconst 0, 1) := by decide +kernel
theorem dX12_speaks_38 : decode cX12_speaks 38 = .ok (.istore 10, 2) := by decide +kernel
theorem dX12_speaks_40 : decode cX12_speaks 40 = .ok (.iload 10, 2) := by decide +kernel
theorem dX12_speaks_42 : decode cX12_speaks 42 = .ok (.aload_n 0, 1) := by decide +kernel
theorem dX12_speaks_43 : decode cX12_speaks 43 = .ok (.getfield 26, 3) := by decide +kernel
theorem dX12_speaks_46 : decode cX12_speaks 46 = .ok (.bipush 6, 2) := by decide +kernel
theorem dX12_speaks_48 : decode cX12_speaks 48 = .ok (.iload 6, 2) := by decide +kernel
theorem dX12_speaks_50 : decode cX12_speaks 50 = .ok (.imul, 1) := by decide +kernel
theorem dX12_speaks_51 : decode cX12_speaks 51 = .ok (.iload_n 2, 1) := by decide +kernel
theorem dX12_speaks_52 : decode cX12_speaks 52 = .ok (.iadd, 1) := by decide +kernel
theorem dX12_speaks_53 : decode cX12_speaks 53 = .ok (.iaload, 1) := by decide +kernel
theorem dX12_speaks_54 : decode cX12_speaks 54 = .ok (.if_icmp .gt 161, 3) := by decide +kernel
theorem dX12_speaks_57 : decode cX12_speaks 57 = .ok (.aload_n 0, 1) := by decide +kernel
theorem dX12_speaks_58 : decode cX12_speaks 58 = .ok (.iload_n 1, 1) := by decide +kernel
theorem dX12_speaks_59 : decode cX12_speaks 59 = .ok (.iload_n 2, 1) := by decide +kernel
theorem dX12_speaks_60 : decode cX12_speaks 60 = .ok (.iload 10, 2) := by decide +kernel
theorem dX12_speaks_62 : decode cX12_speaks 62 = .ok (.invokevirtual 333, 3) := by decide +kernel
theorem dX12_speaks_65 : decode cX12_speaks 65 = .ok (.lstore 11, 2) := by decide +kernel
theorem dX12_speaks_67 : decode cX12_speaks 67 = .ok (.aload_n 0, 1) := by decide +kernel
theorem dX12_speaks_68 : decode cX12_speaks 68 = .ok (.invokevirtual 319, 3) := by decide +kernel
theorem dX12_speaks_71 : decode cX12_speaks 71 = .ok (.aload_n 0, 1) := by decide +kernel
theorem dX12_speaks_72 : decode cX12_speaks 72 = .ok (.getfield 51, 3) := by decide +kernel
theorem dX12_speaks_75 : decode cX12_speaks 75 = .ok (.bipush 116, 2) := by decide +kernel
theorem dX12_speaks_77 : decode cX12_speaks 77 = .ok (.lload 11, 2) := by decide +kernel
theorem dX12_speaks_79 : decode cX12_speaks 79 = .ok (.lastore, 1) := by decide +kernel
theorem dX12_speaks_80 : decode cX12_speaks 80 = .ok (.aload_n 0, 1) := by decide +kernel
theorem dX12_speaks_81 : decode cX12_speaks 81 = .ok (.getfield 51, 3) := by decide +kernel
theorem dX12_speaks_84 : decode cX12_speaks 84 = .ok (.bipush 99, 2) := by decide +kernel
theorem dX12_speaks_86 : decode cX12_speaks 86 = .ok (.lload_n 3, 1) := by decide +kernel
theorem dX12_speaks_87 : decode cX12_speaks 87 = .ok (.lastore, 1) := by decide +kernel
theorem dX12_speaks_88 : decode cX12_speaks 88 = .ok (.aload_n 0, 1) := by decide +kernel
theorem dX12_speaks_89 : decode cX12_speaks 89 = .ok (.getfield 51, 3) := by decide +kernel
theorem dX12_speaks_92 : decode cX12_speaks 92 = .ok (.bipush 119, 2) := by decide +kernel
theorem dX12_speaks_94 : decode cX12_speaks 94 = .ok (.lload 8, 2) := by decide +kernel
theorem dX12_speaks_96 : decode cX12_speaks 96 = .ok (.lastore, 1) := by decide +kernel
theorem dX12_speaks_97 : decode cX12_speaks 97 = .ok (.aload_n 0, 1) := by decide +kernel
theorem dX12_speaks_98 : decode cX12_speaks 98 = .ok (.getfield 51, 3) := by decide +kernel
theorem dX12_speaks_101 : decode cX12_speaks 101 = .ok (.bipush 108, 2) := by decide +kernel
theorem dX12_speaks_103 : decode cX12_speaks 103 = .ok (.iload_n 2, 1) := by decide +kernel
theorem dX12_speaks_104 : decode cX12_speaks 104 = .ok (.ifCond .ne 7, 3) := by decide +kernel
theorem dX12_speaks_107 : decode cX12_speaks 107 = .ok (.lconst 0, 1) := by decide +kernel
theorem dX12_speaks_108 : decode cX12_speaks 108 = .ok (.goto 11, 3) := by decide +kernel
theorem dX12_speaks_111 : decode cX12_speaks 111 = .ok (.aload_n 0, 1) := by decide +kernel
theorem dX12_speaks_112 : decode cX12_speaks 112 = .ok (.getfield 77, 3) := by decide +kernel
theorem dX12_speaks_115 : decode cX12_speaks 115 = .ok (.iload_n 2, 1) := by decide +kernel
theorem dX12_speaks_116 : decode cX12_speaks 116 = .ok (.iconst 1, 1) := by decide +kernel
theorem dX12_speaks_117 : decode cX12_speaks 117 = .ok (.isub, 1) := by decide +kernel
theorem dX12_speaks_118 : decode cX12_speaks 118 = .ok (.laload, 1) := by decide +kernel
theorem dX12_speaks_119 : decode cX12_speaks 119 = .ok (.lastore, 1) := by decide +kernel
theorem dX12_speaks_120 : decode cX12_speaks 120 = .ok (.aload_n 0, 1) := by decide +kernel
theorem dX12_speaks_121 : decode cX12_speaks 121 = .ok (.getfield 51, 3) := by decide +kernel
theorem dX12_speaks_124 : decode cX12_speaks 124 = .ok (.bipush 105, 2) := by decide +kernel
theorem dX12_speaks_126 : decode cX12_speaks 126 = .ok (.iload_n 2, 1) := by decide +kernel
theorem dX12_speaks_127 : decode cX12_speaks 127 = .ok (.i2l, 1) := by decide +kernel
theorem dX12_speaks_128 : decode cX12_speaks 128 = .ok (.lastore, 1) := by decide +kernel
theorem dX12_speaks_129 : decode cX12_speaks 129 = .ok (.aload_n 0, 1) := by decide +kernel
theorem dX12_speaks_130 : decode cX12_speaks 130 = .ok (.getfield 51, 3) := by decide +kernel
theorem dX12_speaks_133 : decode cX12_speaks 133 = .ok (.bipush 106, 2) := by decide +kernel
theorem dX12_speaks_135 : decode cX12_speaks 135 = .ok (.iload 10, 2) := by decide +kernel
theorem dX12_speaks_137 : decode cX12_speaks 137 = .ok (.i2l, 1) := by decide +kernel
theorem dX12_speaks_138 : decode cX12_speaks 138 = .ok (.lastore, 1) := by decide +kernel
theorem dX12_speaks_139 : decode cX12_speaks 139 = .ok (.aload_n 0, 1) := by decide +kernel
theorem dX12_speaks_140 : decode cX12_speaks 140 = .ok (.getfield 51, 3) := by decide +kernel
theorem dX12_speaks_143 : decode cX12_speaks 143 = .ok (.bipush 110, 2) := by decide +kernel
theorem dX12_speaks_145 : decode cX12_speaks 145 = .ok (.aload_n 0, 1) := by decide +kernel
theorem dX12_speaks_146 : decode cX12_speaks 146 = .ok (.getfield 23, 3) := by decide +kernel
theorem dX12_speaks_149 : decode cX12_speaks 149 = .ok (.iload 6, 2) := by decide +kernel
theorem dX12_speaks_151 : decode cX12_speaks 151 = .ok (.iaload, 1) := by decide +kernel
theorem dX12_speaks_152 : decode cX12_speaks 152 = .ok (.i2l, 1) := by decide +kernel
theorem dX12_speaks_153 : decode cX12_speaks 153 = .ok (.lastore, 1) := by decide +kernel
theorem dX12_speaks_154 : decode cX12_speaks 154 = .ok (.aload_n 0, 1) := by decide +kernel
theorem dX12_speaks_155 : decode cX12_speaks 155 = .ok (.getfield 51, 3) := by decide +kernel
theorem dX12_speaks_158 : decode cX12_speaks 158 = .ok (.bipush 112, 2) := by decide +kernel
theorem dX12_speaks_160 : decode cX12_speaks 160 = .ok (.iload 7, 2) := by decide +kernel
theorem dX12_speaks_162 : decode cX12_speaks 162 = .ok (.i2l, 1) := by decide +kernel
theorem dX12_speaks_163 : decode cX12_speaks 163 = .ok (.lastore, 1) := by decide +kernel
theorem dX12_speaks_164 : decode cX12_speaks 164 = .ok (.aload_n 0, 1) := by decide +kernel
theorem dX12_speaks_165 : decode cX12_speaks 165 = .ok (.getfield 51, 3) := by decide +kernel
theorem dX12_speaks_168 : decode cX12_speaks 168 = .ok (.bipush 121, 2) := by decide +kernel
theorem dX12_speaks_170 : decode cX12_speaks 170 = .ok (.iload 5, 2) := by decide +kernel
theorem dX12_speaks_172 : decode cX12_speaks 172 = .ok (.i2l, 1) := by decide +kernel
theorem dX12_speaks_173 : decode cX12_speaks 173 = .ok (.lastore, 1) := by decide +kernel
theorem dX12_speaks_174 : decode cX12_speaks 174 = .ok (.aload_n 0, 1) := by decide +kernel
theorem dX12_speaks_175 : decode cX12_speaks 175 = .ok (.getfield 80, 3) := by decide +kernel
theorem dX12_speaks_178 : decode cX12_speaks 178 = .ok (.sipush 201, 3) := by decide +kernel
theorem dX12_speaks_181 : decode cX12_speaks 181 = .ok (.iload_n 2, 1) := by decide +kernel
theorem dX12_speaks_182 : decode cX12_speaks 182 = .ok (.imul, 1) := by decide +kernel
theorem dX12_speaks_183 : decode cX12_speaks 183 = .ok (.iload 10, 2) := by decide +kernel
theorem dX12_speaks_185 : decode cX12_speaks 185 = .ok (.iadd, 1) := by decide +kernel
theorem dX12_speaks_186 : decode cX12_speaks 186 = .ok (.aload_n 0, 1) := by decide +kernel
theorem dX12_speaks_187 : decode cX12_speaks 187 = .ok (.bipush 12, 2) := by decide +kernel
theorem dX12_speaks_189 : decode cX12_speaks 189 = .ok (.aload_n 0, 1) := by decide +kernel
theorem dX12_speaks_190 : decode cX12_speaks 190 = .ok (.getfield 74, 3) := by decide +kernel
theorem dX12_speaks_193 : decode cX12_speaks 193 = .ok (.iload_n 1, 1) := by decide +kernel
theorem dX12_speaks_194 : decode cX12_speaks 194 = .ok (.iaload, 1) := by decide +kernel
theorem dX12_speaks_195 : decode cX12_speaks 195 = .ok (.iadd, 1) := by decide +kernel
theorem dX12_speaks_196 : decode cX12_speaks 196 = .ok (.iconst 1, 1) := by decide +kernel
theorem dX12_speaks_197 : decode cX12_speaks 197 = .ok (.bipush 118, 2) := by decide +kernel
theorem dX12_speaks_199 : decode cX12_speaks 199 = .ok (.invokevirtual 322, 3) := by decide +kernel
theorem dX12_speaks_202 : decode cX12_speaks 202 = .ok (.iload 7, 2) := by decide +kernel
theorem dX12_speaks_204 : decode cX12_speaks 204 = .ok (.i2l, 1) := by decide +kernel
theorem dX12_speaks_205 : decode cX12_speaks 205 = .ok (.invokestatic 180, 3) := by decide +kernel
theorem dX12_speaks_208 : decode cX12_speaks 208 = .ok (.lastore, 1) := by decide +kernel
theorem dX12_speaks_209 : decode cX12_speaks 209 = .ok (.iinc 10 1, 3) := by decide +kernel
theorem dX12_speaks_212 : decode cX12_speaks 212 = .ok (.goto (-172), 3) := by decide +kernel
theorem dX12_speaks_215 : decode cX12_speaks 215 = .ok (.return_, 1) := by decide +kernel
theorem dX12_sumsUp_0 : decode cX12_sumsUp 0 = .ok (.aload_n 0, 1) := by decide +kernel
theorem dX12_sumsUp_1 : decode cX12_sumsUp 1 = .ok (.getfield 26, 3) := by decide +kernel
theorem dX12_sumsUp_4 : decode cX12_sumsUp 4 = .ok (.bipush 6, 2) := by decide +kernel
theorem dX12_sumsUp_6 : decode cX12_sumsUp 6 = .ok (.aload_n 0, 1) := by decide +kernel
theorem dX12_sumsUp_7 : decode cX12_sumsUp 7 = .ok (.getfield 65, 3) := by decide +kernel
theorem dX12_sumsUp_10 : decode cX12_sumsUp 10 = .ok (.iload_n 1, 1) := by decide +kernel
theorem dX12_sumsUp_11 : decode cX12_sumsUp 11 = .ok (.iaload, 1) := by decide +kernel
theorem dX12_sumsUp_12 : decode cX12_sumsUp 12 = .ok (.imul, 1) := by decide +kernel
theorem dX12_sumsUp_13 : decode cX12_sumsUp 13 = .ok (.iload_n 2, 1) := by decide +kernel
theorem dX12_sumsUp_14 : decode cX12_sumsUp 14 = .ok (.iadd, 1) := by decide +kernel
theorem dX12_sumsUp_15 : decode cX12_sumsUp 15 = .ok (.iaload, 1) := by decide +kernel
theorem dX12_sumsUp_16 : decode cX12_sumsUp 16 = .ok (.istore 5, 2) := by decide +kernel
theorem dX12_sumsUp_18 : decode cX12_sumsUp 18 = .ok (.aload_n 0, 1) := by decide +kernel
theorem dX12_sumsUp_19 : decode cX12_sumsUp 19 = .ok (.getfield 80, 3) := by decide +kernel
theorem dX12_sumsUp_22 : decode cX12_sumsUp 22 = .ok (.sipush 201, 3) := by decide +kernel
theorem dX12_sumsUp_25 : decode cX12_sumsUp 25 = .ok (.iload_n 2, 1) := by decide +kernel
theorem dX12_sumsUp_26 : decode cX12_sumsUp 26 = .ok (.imul, 1) := by decide +kernel
theorem dX12_sumsUp_27 : decode cX12_sumsUp 27 = .ok (.laload, 1) := by decide +kernel
theorem dX12_sumsUp_28 : decode cX12_sumsUp 28 = .ok (.aload_n 0, 1) := by decide +kernel
theorem dX12_sumsUp_29 : decode cX12_sumsUp 29 = .ok (.getfield 80, 3) := by decide +kernel
theorem dX12_sumsUp_32 : decode cX12_sumsUp 32 = .ok (.sipush 201, 3) := by decide +kernel
theorem dX12_sumsUp_35 : decode cX12_sumsUp 35 = .ok (.iload_n 2, 1) := by decide +kernel
theorem dX12_sumsUp_36 : decode cX12_sumsUp 36 = .ok (.imul, 1) := by decide +kernel
theorem dX12_sumsUp_37 : decode cX12_sumsUp 37 = .ok (.iload 5, 2) := by decide +kernel
theorem dX12_sumsUp_39 : decode cX12_sumsUp 39 = .ok (.ifCond .ne 7, 3) := by decide +kernel
theorem dX12_sumsUp_42 : decode cX12_sumsUp 42 = .ok (.iconst 0, 1) := by decide +kernel
theorem dX12_sumsUp_43 : decode cX12_sumsUp 43 = .ok (.goto 4, 3) := by decide +kernel
theorem dX12_sumsUp_46 : decode cX12_sumsUp 46 = .ok (.iconst 1, 1) := by decide +kernel
theorem dX12_sumsUp_47 : decode cX12_sumsUp 47 = .ok (.iadd, 1) := by decide +kernel
theorem dX12_sumsUp_48 : decode cX12_sumsUp 48 = .ok (.laload, 1) := by decide +kernel
theorem dX12_sumsUp_49 : decode cX12_sumsUp 49 = .ok (.ladd, 1) := by decide +kernel
theorem dX12_sumsUp_50 : decode cX12_sumsUp 50 = .ok (.aload_n 0, 1) := by decide +kernel
theorem dX12_sumsUp_51 : decode cX12_sumsUp 51 = .ok (.getfield 68, 3) := by decide +kernel
theorem dX12_sumsUp_54 : decode cX12_sumsUp 54 = .ok (.iload_n 1, 1) := by decide +kernel
theorem dX12_sumsUp_55 : decode cX12_sumsUp 55 = .ok (.iaload, 1) := by decide +kernel
theorem dX12_sumsUp_56 : decode cX12_sumsUp 56 = .ok (.i2l, 1) := by decide +kernel
theorem dX12_sumsUp_57 : decode cX12_sumsUp 57 = .ok (.lrem, 1) := by decide +kernel
theorem dX12_sumsUp_58 : decode cX12_sumsUp 58 = .ok (.lload_n 3, 1) := by decide +kernel
theorem dX12_sumsUp_59 : decode cX12_sumsUp 59 = .ok (.lcmp, 1) := by decide +kernel
theorem dX12_sumsUp_60 : decode cX12_sumsUp 60 = .ok (.ifCond .ne 7, 3) := by decide +kernel
theorem dX12_sumsUp_63 : decode cX12_sumsUp 63 = .ok (.iconst 1, 1) := by decide +kernel
theorem dX12_sumsUp_64 : decode cX12_sumsUp 64 = .ok (.goto 4, 3) := by decide +kernel
theorem dX12_sumsUp_67 : decode cX12_sumsUp 67 = .ok (.iconst 0, 1) := by decide +kernel
theorem dX12_sumsUp_68 : decode cX12_sumsUp 68 = .ok (.ireturn, 1) := by decide +kernel
theorem dX12_nextClaim_0 : decode cX12_nextClaim 0 = .ok (.aload_n 0, 1) := by decide +kernel
theorem dX12_nextClaim_1 : decode cX12_nextClaim 1 = .ok (.getfield 26, 3) := by decide +kernel
theorem dX12_nextClaim_4 : decode cX12_nextClaim 4 = .ok (.bipush 6, 2) := by decide +kernel
theorem dX12_nextClaim_6 : decode cX12_nextClaim 6 = .ok (.aload_n 0, 1) := by decide +kernel
theorem dX12_nextClaim_7 : decode cX12_nextClaim 7 = .ok (.getfield 65, 3) := by decide +kernel
theorem dX12_nextClaim_10 : decode cX12_nextClaim 10 = .ok (.iload_n 1, 1) := by decide +kernel
theorem dX12_nextClaim_11 : decode cX12_nextClaim 11 = .ok (.iaload, 1) := by decide +kernel
theorem dX12_nextClaim_12 : decode cX12_nextClaim 12 = .ok (.imul, 1) := by decide +kernel
theorem dX12_nextClaim_13 : decode cX12_nextClaim 13 = .ok (.iload_n 2, 1) := by decide +kernel
theorem dX12_nextClaim_14 : decode cX12_nextClaim 14 = .ok (.iadd, 1) := by decide +kernel
theorem dX12_nextClaim_15 : decode cX12_nextClaim 15 = .ok (.iaload, 1) := by decide +kernel
theorem dX12_nextClaim_16 : decode cX12_nextClaim 16 = .ok (.istore_n 3, 1) := by decide +kernel
theorem dX12_nextClaim_17 : decode cX12_nextClaim 17 = .ok (.iconst 0, 1) := by decide +kernel
theorem dX12_nextClaim_18 : decode cX12_nextClaim 18 = .ok (.istore 4, 2) := by decide +kernel
theorem dX12_nextClaim_20 : decode cX12_nextClaim 20 = .ok (.iload 4, 2) := by decide +kernel
theorem dX12_nextClaim_22 : decode cX12_nextClaim 22 = .ok (.iload_n 3, 1) := by decide +kernel
theorem dX12_nextClaim_23 : decode cX12_nextClaim 23 = .ok (.if_icmp .gt 29, 3) := by decide +kernel
theorem dX12_nextClaim_26 : decode cX12_nextClaim 26 = .ok (.aload_n 0, 1) := by decide +kernel
theorem dX12_nextClaim_27 : decode cX12_nextClaim 27 = .ok (.getfield 42, 3) := by decide +kernel
theorem dX12_nextClaim_30 : decode cX12_nextClaim 30 = .ok (.iload 4, 2) := by decide +kernel
theorem dX12_nextClaim_32 : decode cX12_nextClaim 32 = .ok (.aload_n 0, 1) := by decide +kernel
theorem dX12_nextClaim_33 : decode cX12_nextClaim 33 = .ok (.getfield 80, 3) := by decide +kernel
theorem dX12_nextClaim_36 : decode cX12_nextClaim 36 = .ok (.sipush 201, 3) := by decide +kernel
theorem dX12_nextClaim_39 : decode cX12_nextClaim 39 = .ok (.iload_n 2, 1) := by decide +kernel
theorem dX12_nextClaim_40 : decode cX12_nextClaim 40 = .ok (.imul, 1) := by decide +kernel
theorem dX12_nextClaim_41 : decode cX12_nextClaim 41 = .ok (.iload 4, 2) := by decide +kernel
theorem dX12_nextClaim_43 : decode cX12_nextClaim 43 = .ok (.iadd, 1) := by decide +kernel
theorem dX12_nextClaim_44 : decode cX12_nextClaim 44 = .ok (.laload, 1) := by decide +kernel
theorem dX12_nextClaim_45 : decode cX12_nextClaim 45 = .ok (.lastore, 1) := by decide +kernel
theorem dX12_nextClaim_46 : decode cX12_nextClaim 46 = .ok (.iinc 4 1, 3) := by decide +kernel
theorem dX12_nextClaim_49 : decode cX12_nextClaim 49 = .ok (.goto (-29), 3) := by decide +kernel
theorem dX12_nextClaim_52 : decode cX12_nextClaim 52 = .ok (.aload_n 0, 1) := by decide +kernel
theorem dX12_nextClaim_53 : decode cX12_nextClaim 53 = .ok (.iload_n 3, 1) := by decide +kernel
theorem dX12_nextClaim_54 : decode cX12_nextClaim 54 = .ok (.iconst 1, 1) := by decide +kernel
theorem dX12_nextClaim_55 : decode cX12_nextClaim 55 = .ok (.iadd, 1) := by decide +kernel
theorem dX12_nextClaim_56 : decode cX12_nextClaim 56 = .ok (.aload_n 0, 1) := by decide +kernel
theorem dX12_nextClaim_57 : decode cX12_nextClaim 57 = .ok (.getfield 77, 3) := by decide +kernel
theorem dX12_nextClaim_60 : decode cX12_nextClaim 60 = .ok (.iload_n 2, 1) := by decide +kernel
theorem dX12_nextClaim_61 : decode cX12_nextClaim 61 = .ok (.laload, 1) := by decide +kernel
theorem dX12_nextClaim_62 : decode cX12_nextClaim 62 = .ok (.aload_n 0, 1) := by decide +kernel
theorem dX12_nextClaim_63 : decode cX12_nextClaim 63 = .ok (.getfield 68, 3) := by decide +kernel
theorem dX12_nextClaim_66 : decode cX12_nextClaim 66 = .ok (.iload_n 1, 1) := by decide +kernel
theorem dX12_nextClaim_67 : decode cX12_nextClaim 67 = .ok (.iaload, 1) := by decide +kernel
theorem dX12_nextClaim_68 : decode cX12_nextClaim 68 = .ok (.i2l, 1) := by decide +kernel
theorem dX12_nextClaim_69 : decode cX12_nextClaim 69 = .ok (.invokevirtual 232, 3) := by decide +kernel
theorem dX12_nextClaim_72 : decode cX12_nextClaim 72 = .ok (.lreturn, 1) := by decide +kernel
theorem dX12_endsWell_0 : decode cX12_endsWell 0 = .ok (.aload_n 0, 1) := by decide +kernel
theorem dX12_endsWell_1 : decode cX12_endsWell 1 = .ok (.getfield 65, 3) := by decide +kernel
theorem dX12_endsWell_4 : decode cX12_endsWell 4 = .ok (.iload_n 1, 1) := by decide +kernel
theorem dX12_endsWell_5 : decode cX12_endsWell 5 = .ok (.iaload, 1) := by decide +kernel
theorem dX12_endsWell_6 : decode cX12_endsWell 6 = .ok (.istore 4, 2) := by decide +kernel
theorem dX12_endsWell_8 : decode cX12_endsWell 8 = .ok (.aload_n 0, 1) := by decide +kernel
theorem dX12_endsWell_9 : decode cX12_endsWell 9 = .ok (.aload_n 0, 1) := by decide +kernel
theorem dX12_endsWell_10 : decode cX12_endsWell 10 = .ok (.getfield 71, 3) := by decide +kernel
theorem dX12_endsWell_13 : decode cX12_endsWell 13 = .ok (.iload_n 1, 1) := by decide +kernel
theorem dX12_endsWell_14 : decode cX12_endsWell 14 = .ok (.iaload, 1) := by decide +kernel
theorem dX12_endsWell_15 : decode cX12_endsWell 15 = .ok (.iload 4, 2) := by decide +kernel
theorem dX12_endsWell_17 : decode cX12_endsWell 17 = .ok (.aload_n 0, 1) := by decide +kernel
theorem dX12_endsWell_18 : decode cX12_endsWell 18 = .ok (.getfield 68, 3) := by decide +kernel
theorem dX12_endsWell_21 : decode cX12_endsWell 21 = .ok (.iload_n 1, 1) := by decide +kernel
theorem dX12_endsWell_22 : decode cX12_endsWell 22 = .ok (.iaload, 1) := by decide +kernel
theorem dX12_endsWell_23 : decode cX12_endsWell 23 = .ok (.invokevirtual 337, 3) := by decide +kernel
theorem dX12_endsWell_26 : decode cX12_endsWell 26 = .ok (.ifCond .ne 5, 3) := by decide +kernel
theorem dX12_endsWell_29 : decode cX12_endsWell 29 = .ok (.iconst 1, 1) := by decide +kernel
theorem dX12_endsWell_30 : decode cX12_endsWell 30 = .ok (.ireturn, 1) := by decide +kernel
theorem dX12_endsWell_31 : decode cX12_endsWell 31 = .ok (.iconst 0, 1) := by decide +kernel
theorem dX12_endsWell_32 : decode cX12_endsWell 32 = .ok (.istore 5, 2) := by decide +kernel
theorem dX12_endsWell_34 : decode cX12_endsWell 34 = .ok (.iload 5, 2) := by decide +kernel
theorem dX12_endsWell_36 : decode cX12_endsWell 36 = .ok (.aload_n 0, 1) := by decide +kernel
theorem dX12_endsWell_37 : decode cX12_endsWell 37 = .ok (.getfield 23, 3) := by decide +kernel
theorem dX12_endsWell_40 : decode cX12_endsWell 40 = .ok (.iload 4, 2) := by decide +kernel
theorem dX12_endsWell_42 : decode cX12_endsWell 42 = .ok (.iaload, 1) := by decide +kernel
theorem dX12_endsWell_43 : decode cX12_endsWell 43 = .ok (.if_icmp .ge 23, 3) := by decide +kernel
theorem dX12_endsWell_46 : decode cX12_endsWell 46 = .ok (.aload_n 0, 1) := by decide +kernel
theorem dX12_endsWell_47 : decode cX12_endsWell 47 = .ok (.getfield 36, 3) := by decide +kernel
theorem dX12_endsWell_50 : decode cX12_endsWell 50 = .ok (.iload 5, 2) := by decide +kernel
theorem dX12_endsWell_52 : decode cX12_endsWell 52 = .ok (.aload_n 0, 1) := by decide +kernel
theorem dX12_endsWell_53 : decode cX12_endsWell 53 = .ok (.getfield 77, 3) := by decide +kernel
theorem dX12_endsWell_56 : decode cX12_endsWell 56 = .ok (.iload 5, 2) := by decide +kernel
theorem dX12_endsWell_58 : decode cX12_endsWell 58 = .ok (.laload, 1) := by decide +kernel
theorem dX12_endsWell_59 : decode cX12_endsWell 59 = .ok (.lastore, 1) := by decide +kernel
theorem dX12_endsWell_60 : decode cX12_endsWell 60 = .ok (.iinc 5 1, 3) := by decide +kernel
theorem dX12_endsWell_63 : decode cX12_endsWell 63 = .ok (.goto (-29), 3) := by decide +kernel
theorem dX12_endsWell_66 : decode cX12_endsWell 66 = .ok (.aload_n 0, 1) := by decide +kernel
theorem dX12_endsWell_67 : decode cX12_endsWell 67 = .ok (.iload 4, 2) := by decide +kernel
theorem dX12_endsWell_69 : decode cX12_endsWell 69 = .ok (.aload_n 0, 1) := by decide +kernel
theorem dX12_endsWell_70 : decode cX12_endsWell 70 = .ok (.getfield 68, 3) := by decide +kernel
theorem dX12_endsWell_73 : decode cX12_endsWell 73 = .ok (.iload_n 1, 1) := by decide +kernel
theorem dX12_endsWell_74 : decode cX12_endsWell 74 = .ok (.iaload, 1) := by decide +kernel
theorem dX12_endsWell_75 : decode cX12_endsWell 75 = .ok (.i2l, 1) := by decide +kernel
theorem dX12_endsWell_76 : decode cX12_endsWell 76 = .ok (.invokevirtual 184, 3) := by decide +kernel
theorem dX12_endsWell_79 : decode cX12_endsWell 79 = .ok (.lload_n 2, 1) := by decide +kernel
theorem dX12_endsWell_80 : decode cX12_endsWell 80 = .ok (.lcmp, 1) := by decide +kernel
theorem dX12_endsWell_81 : decode cX12_endsWell 81 = .ok (.ifCond .ne 7, 3) := by decide +kernel
theorem dX12_endsWell_84 : decode cX12_endsWell 84 = .ok (.iconst 1, 1) := by decide +kernel
theorem dX12_endsWell_85 : decode cX12_endsWell 85 = .ok (.goto 4, 3) := by decide +kernel
theorem dX12_endsWell_88 : decode cX12_endsWell 88 = .ok (.iconst 0, 1) := by decide +kernel
theorem dX12_endsWell_89 : decode cX12_endsWell 89 = .ok (.ireturn, 1) := by decide +kernel
theorem dX12_mix_0 : decode cX12_mix 0 = .ok (.aload_n 0, 1) := by decide +kernel
theorem dX12_mix_1 : decode cX12_mix 1 = .ok (.aload_n 0, 1) := by decide +kernel
theorem dX12_mix_2 : decode cX12_mix 2 = .ok (.getfield 341, 3) := by decide +kernel
theorem dX12_mix_5 : decode cX12_mix 5 = .ok (.ldc2_w 344, 3) := by decide +kernel
theorem dX12_mix_8 : decode cX12_mix 8 = .ok (.lmul, 1) := by decide +kernel
theorem dX12_mix_9 : decode cX12_mix 9 = .ok (.ldc2_w 346, 3) := by decide +kernel
theorem dX12_mix_12 : decode cX12_mix 12 = .ok (.ladd, 1) := by decide +kernel
theorem dX12_mix_13 : decode cX12_mix 13 = .ok (.lload_n 1, 1) := by decide +kernel
theorem dX12_mix_14 : decode cX12_mix 14 = .ok (.ladd, 1) := by decide +kernel
theorem dX12_mix_15 : decode cX12_mix 15 = .ok (.putfield 341, 3) := by decide +kernel
theorem dX12_mix_18 : decode cX12_mix 18 = .ok (.return_, 1) := by decide +kernel
theorem dX12_goes_0 : decode cX12_goes 0 = .ok (.aload_n 0, 1) := by decide +kernel
theorem dX12_goes_1 : decode cX12_goes 1 = .ok (.getfield 65, 3) := by decide +kernel
theorem dX12_goes_4 : decode cX12_goes 4 = .ok (.iload_n 1, 1) := by decide +kernel
theorem dX12_goes_5 : decode cX12_goes 5 = .ok (.iaload, 1) := by decide +kernel
theorem dX12_goes_6 : decode cX12_goes 6 = .ok (.istore 6, 2) := by decide +kernel
theorem dX12_goes_8 : decode cX12_goes 8 = .ok (.aload_n 0, 1) := by decide +kernel
theorem dX12_goes_9 : decode cX12_goes 9 = .ok (.iload_n 2, 1) := by decide +kernel
theorem dX12_goes_10 : decode cX12_goes 10 = .ok (.ifCond .eq 7, 3) := by decide +kernel
theorem dX12_goes_13 : decode cX12_goes 13 = .ok (.lconst 1, 1) := by decide +kernel
theorem dX12_goes_14 : decode cX12_goes 14 = .ok (.goto 4, 3) := by decide +kernel
theorem dX12_goes_17 : decode cX12_goes 17 = .ok (.lload_n 3, 1) := by decide +kernel
theorem dX12_goes_18 : decode cX12_goes 18 = .ok (.putfield 341, 3) := by decide +kernel
theorem dX12_goes_21 : decode cX12_goes 21 = .ok (.aload_n 0, 1) := by decide +kernel
theorem dX12_goes_22 : decode cX12_goes 22 = .ok (.iconst (-1), 1) := by decide +kernel
theorem dX12_goes_23 : decode cX12_goes 23 = .ok (.putfield 348, 3) := by decide +kernel
theorem dX12_goes_26 : decode cX12_goes 26 = .ok (.aload_n 0, 1) := by decide +kernel
theorem dX12_goes_27 : decode cX12_goes 27 = .ok (.iconst 0, 1) := by decide +kernel
theorem dX12_goes_28 : decode cX12_goes 28 = .ok (.putfield 351, 3) := by decide +kernel
theorem dX12_goes_31 : decode cX12_goes 31 = .ok (.aload_n 0, 1) := by decide +kernel
theorem dX12_goes_32 : decode cX12_goes 32 = .ok (.aload_n 0, 1) := by decide +kernel
theorem dX12_goes_33 : decode cX12_goes 33 = .ok (.iload_n 1, 1) := by decide +kernel
theorem dX12_goes_34 : decode cX12_goes 34 = .ok (.iload 5, 2) := by decide +kernel
theorem dX12_goes_36 : decode cX12_goes 36 = .ok (.invokevirtual 354, 3) := by decide +kernel
theorem dX12_goes_39 : decode cX12_goes 39 = .ok (.putfield 358, 3) := by decide +kernel
theorem dX12_goes_42 : decode cX12_goes 42 = .ok (.aload_n 0, 1) := by decide +kernel
theorem dX12_goes_43 : decode cX12_goes 43 = .ok (.aload_n 0, 1) := by decide +kernel
theorem dX12_goes_44 : decode cX12_goes 44 = .ok (.getfield 358, 3) := by decide +kernel
theorem dX12_goes_47 : decode cX12_goes 47 = .ok (.putfield 361, 3) := by decide +kernel
theorem dX12_goes_50 : decode cX12_goes 50 = .ok (.iload_n 2, 1) := by decide +kernel
theorem dX12_goes_51 : decode cX12_goes 51 = .ok (.ifCond .eq 11, 3) := by decide +kernel
theorem dX12_goes_54 : decode cX12_goes 54 = .ok (.aload_n 0, 1) := by decide +kernel
theorem dX12_goes_55 : decode cX12_goes 55 = .ok (.aload_n 0, 1) := by decide +kernel
theorem dX12_goes_56 : decode cX12_goes 56 = .ok (.getfield 358, 3) := by decide +kernel
theorem dX12_goes_59 : decode cX12_goes 59 = .ok (.invokevirtual 364, 3) := by decide +kernel
theorem dX12_goes_62 : decode cX12_goes 62 = .ok (.iconst 0, 1) := by decide +kernel
theorem dX12_goes_63 : decode cX12_goes 63 = .ok (.istore 7, 2) := by decide +kernel
theorem dX12_goes_65 : decode cX12_goes 65 = .ok (.iload 7, 2) := by decide +kernel
theorem dX12_goes_67 : decode cX12_goes 67 = .ok (.aload_n 0, 1) := by decide +kernel
theorem dX12_goes_68 : decode cX12_goes 68 = .ok (.getfield 23, 3) := by decide +kernel
theorem dX12_goes_71 : decode cX12_goes 71 = .ok (.iload 6, 2) := by decide +kernel
theorem dX12_goes_73 : decode cX12_goes 73 = .ok (.iaload, 1) := by decide +kernel
theorem dX12_goes_74 : decode cX12_goes 74 = .ok (.if_icmp .ge 182, 3) := by decide +kernel
theorem dX12_goes_77 : decode cX12_goes 77 = .ok (.aload_n 0, 1) := by decide +kernel
theorem dX12_goes_78 : decode cX12_goes 78 = .ok (.iload_n 1, 1) := by decide +kernel
theorem dX12_goes_79 : decode cX12_goes 79 = .ok (.iload 7, 2) := by decide +kernel
theorem dX12_goes_81 : decode cX12_goes 81 = .ok (.aload_n 0, 1) := by decide +kernel
theorem dX12_goes_82 : decode cX12_goes 82 = .ok (.getfield 361, 3) := by decide +kernel
theorem dX12_goes_85 : decode cX12_goes 85 = .ok (.iload 5, 2) := by decide +kernel
theorem dX12_goes_87 : decode cX12_goes 87 = .ok (.invokevirtual 368, 3) := by decide +kernel
theorem dX12_goes_90 : decode cX12_goes 90 = .ok (.iconst 0, 1) := by decide +kernel
theorem dX12_goes_91 : decode cX12_goes 91 = .ok (.istore 8, 2) := by decide +kernel
theorem dX12_goes_93 : decode cX12_goes 93 = .ok (.iload 8, 2) := by decide +kernel
theorem dX12_goes_95 : decode cX12_goes 95 = .ok (.aload_n 0, 1) := by decide +kernel
theorem dX12_goes_96 : decode cX12_goes 96 = .ok (.getfield 26, 3) := by decide +kernel
theorem dX12_goes_99 : decode cX12_goes 99 = .ok (.bipush 6, 2) := by decide +kernel
theorem dX12_goes_101 : decode cX12_goes 101 = .ok (.iload 6, 2) := by decide +kernel
theorem dX12_goes_103 : decode cX12_goes 103 = .ok (.imul, 1) := by decide +kernel
theorem dX12_goes_104 : decode cX12_goes 104 = .ok (.iload 7, 2) := by decide +kernel
theorem dX12_goes_106 : decode cX12_goes 106 = .ok (.iadd, 1) := by decide +kernel
theorem dX12_goes_107 : decode cX12_goes 107 = .ok (.iaload, 1) := by decide +kernel
theorem dX12_goes_108 : decode cX12_goes 108 = .ok (.if_icmp .gt 31, 3) := by decide +kernel
theorem dX12_goes_111 : decode cX12_goes 111 = .ok (.iload_n 2, 1) := by decide +kernel
theorem dX12_goes_112 : decode cX12_goes 112 = .ok (.ifCond .eq 27, 3) := by decide +kernel
theorem dX12_goes_115 : decode cX12_goes 115 = .ok (.aload_n 0, 1) := by decide +kernel
theorem dX12_goes_116 : decode cX12_goes 116 = .ok (.aload_n 0, 1) := by decide +kernel
theorem dX12_goes_117 : decode cX12_goes 117 = .ok (.getfield 80, 3) := by decide +kernel
theorem dX12_goes_120 : decode cX12_goes 120 = .ok (.sipush 201, 3) := by decide +kernel
theorem dX12_goes_123 : decode cX12_goes 123 = .ok (.iload 7, 2) := by decide +kernel
theorem dX12_goes_125 : decode cX12_goes 125 = .ok (.imul, 1) := by decide +kernel
theorem dX12_goes_126 : decode cX12_goes 126 = .ok (.iload 8, 2) := by decide +kernel
theorem dX12_goes_128 : decode cX12_goes 128 = .ok (.iadd, 1) := by decide +kernel
theorem dX12_goes_129 : decode cX12_goes 129 = .ok (.laload, 1) := by decide +kernel
theorem dX12_goes_130 : decode cX12_goes 130 = .ok (.invokevirtual 364, 3) := by decide +kernel
theorem dX12_goes_133 : decode cX12_goes 133 = .ok (.iinc 8 1, 3) := by decide +kernel
theorem dX12_goes_136 : decode cX12_goes 136 = .ok (.goto (-43), 3) := by decide +kernel
theorem dX12_goes_139 : decode cX12_goes 139 = .ok (.aload_n 0, 1) := by decide +kernel
theorem dX12_goes_140 : decode cX12_goes 140 = .ok (.aload_n 0, 1) := by decide +kernel
theorem dX12_goes_141 : decode cX12_goes 141 = .ok (.getfield 71, 3) := by decide +kernel
theorem dX12_goes_144 : decode cX12_goes 144 = .ok (.iload_n 1, 1) := by decide +kernel
theorem dX12_goes_145 : decode cX12_goes 145 = .ok (.iaload, 1) := by decide +kernel
theorem dX12_goes_146 : decode cX12_goes 146 = .ok (.iload 6, 2) := by decide +kernel
theorem dX12_goes_148 : decode cX12_goes 148 = .ok (.aload_n 0, 1) := by decide +kernel
theorem dX12_goes_149 : decode cX12_goes 149 = .ok (.getfield 68, 3) := by decide +kernel
theorem dX12_goes_152 : decode cX12_goes 152 = .ok (.iload_n 1, 1) := by decide +kernel
theorem dX12_goes_153 : decode cX12_goes 153 = .ok (.iaload, 1) := by decide +kernel
theorem dX12_goes_154 : decode cX12_goes 154 = .ok (.iload 7, 2) := by decide +kernel
theorem dX12_goes_156 : decode cX12_goes 156 = .ok (.invokevirtual 372, 3) := by decide +kernel
theorem dX12_goes_159 : decode cX12_goes 159 = .ok (.ifCond .eq 25, 3) := by decide +kernel
theorem dX12_goes_162 : decode cX12_goes 162 = .ok (.aload_n 0, 1) := by decide +kernel
theorem dX12_goes_163 : decode cX12_goes 163 = .ok (.iload_n 1, 1) := by decide +kernel
theorem dX12_goes_164 : decode cX12_goes 164 = .ok (.iload 7, 2) := by decide +kernel
theorem dX12_goes_166 : decode cX12_goes 166 = .ok (.aload_n 0, 1) := by decide +kernel
theorem dX12_goes_167 : decode cX12_goes 167 = .ok (.getfield 361, 3) := by decide +kernel
theorem dX12_goes_170 : decode cX12_goes 170 = .ok (.invokevirtual 376, 3) := by decide +kernel
theorem dX12_goes_173 : decode cX12_goes 173 = .ok (.ifCond .ne 11, 3) := by decide +kernel
theorem dX12_goes_176 : decode cX12_goes 176 = .ok (.aload_n 0, 1) := by decide +kernel
theorem dX12_goes_177 : decode cX12_goes 177 = .ok (.iload 7, 2) := by decide +kernel
theorem dX12_goes_179 : decode cX12_goes 179 = .ok (.putfield 348, 3) := by decide +kernel
theorem dX12_goes_182 : decode cX12_goes 182 = .ok (.iconst 0, 1) := by decide +kernel
theorem dX12_goes_183 : decode cX12_goes 183 = .ok (.ireturn, 1) := by decide +kernel
theorem dX12_goes_184 : decode cX12_goes 184 = .ok (.iload_n 2, 1) := by decide +kernel
theorem dX12_goes_185 : decode cX12_goes 185 = .ok (.ifCond .ne 8, 3) := by decide +kernel
theorem dX12_goes_188 : decode cX12_goes 188 = .ok (.aload_n 0, 1) := by decide +kernel
theorem dX12_goes_189 : decode cX12_goes 189 = .ok (.lconst 0, 1) := by decide +kernel
theorem dX12_goes_190 : decode cX12_goes 190 = .ok (.invokevirtual 364, 3) := by decide +kernel
theorem dX12_goes_193 : decode cX12_goes 193 = .ok (.aload_n 0, 1) := by decide +kernel
theorem dX12_goes_194 : decode cX12_goes 194 = .ok (.getfield 77, 3) := by decide +kernel
theorem dX12_goes_197 : decode cX12_goes 197 = .ok (.iload 7, 2) := by decide +kernel
theorem dX12_goes_199 : decode cX12_goes 199 = .ok (.aload_n 0, 1) := by decide +kernel
theorem dX12_goes_200 : decode cX12_goes 200 = .ok (.getfield 341, 3) := by decide +kernel
theorem dX12_goes_203 : decode cX12_goes 203 = .ok (.bipush 33, 2) := by decide +kernel
theorem dX12_goes_205 : decode cX12_goes 205 = .ok (.lushr, 1) := by decide +kernel
theorem dX12_goes_206 : decode cX12_goes 206 = .ok (.aload_n 0, 1) := by decide +kernel
theorem dX12_goes_207 : decode cX12_goes 207 = .ok (.aload_n 0, 1) := by decide +kernel
theorem dX12_goes_208 : decode cX12_goes 208 = .ok (.getfield 71, 3) := by decide +kernel
theorem dX12_goes_211 : decode cX12_goes 211 = .ok (.iload_n 1, 1) := by decide +kernel
theorem dX12_goes_212 : decode cX12_goes 212 = .ok (.iaload, 1) := by decide +kernel
theorem dX12_goes_213 : decode cX12_goes 213 = .ok (.iload 6, 2) := by decide +kernel
theorem dX12_goes_215 : decode cX12_goes 215 = .ok (.aload_n 0, 1) := by decide +kernel
theorem dX12_goes_216 : decode cX12_goes 216 = .ok (.getfield 68, 3) := by decide +kernel
theorem dX12_goes_219 : decode cX12_goes 219 = .ok (.iload_n 1, 1) := by decide +kernel
theorem dX12_goes_220 : decode cX12_goes 220 = .ok (.iaload, 1) := by decide +kernel
theorem dX12_goes_221 : decode cX12_goes 221 = .ok (.iload 7, 2) := by decide +kernel
theorem dX12_goes_223 : decode cX12_goes 223 = .ok (.invokevirtual 380, 3) := by decide +kernel
theorem dX12_goes_226 : decode cX12_goes 226 = .ok (.i2l, 1) := by decide +kernel
theorem dX12_goes_227 : decode cX12_goes 227 = .ok (.lrem, 1) := by decide +kernel
theorem dX12_goes_228 : decode cX12_goes 228 = .ok (.lastore, 1) := by decide +kernel
theorem dX12_goes_229 : decode cX12_goes 229 = .ok (.aload_n 0, 1) := by decide +kernel
theorem dX12_goes_230 : decode cX12_goes 230 = .ok (.dup, 1) := by decide +kernel
theorem dX12_goes_231 : decode cX12_goes 231 = .ok (.getfield 351, 3) := by decide +kernel
theorem dX12_goes_234 : decode cX12_goes 234 = .ok (.iconst 1, 1) := by decide +kernel
theorem dX12_goes_235 : decode cX12_goes 235 = .ok (.iadd, 1) := by decide +kernel
theorem dX12_goes_236 : decode cX12_goes 236 = .ok (.putfield 351, 3) := by decide +kernel
theorem dX12_goes_239 : decode cX12_goes 239 = .ok (.aload_n 0, 1) := by decide +kernel
theorem dX12_goes_240 : decode cX12_goes 240 = .ok (.aload_n 0, 1) := by decide +kernel
theorem dX12_goes_241 : decode cX12_goes 241 = .ok (.iload_n 1, 1) := by decide +kernel
theorem dX12_goes_242 : decode cX12_goes 242 = .ok (.iload 7, 2) := by decide +kernel
theorem dX12_goes_244 : decode cX12_goes 244 = .ok (.invokevirtual 384, 3) := by decide +kernel
theorem dX12_goes_247 : decode cX12_goes 247 = .ok (.putfield 361, 3) := by decide +kernel
theorem dX12_goes_250 : decode cX12_goes 250 = .ok (.iinc 7 1, 3) := by decide +kernel
theorem dX12_goes_253 : decode cX12_goes 253 = .ok (.goto (-188), 3) := by decide +kernel
theorem dX12_goes_256 : decode cX12_goes 256 = .ok (.aload_n 0, 1) := by decide +kernel
theorem dX12_goes_257 : decode cX12_goes 257 = .ok (.iload_n 1, 1) := by decide +kernel
theorem dX12_goes_258 : decode cX12_goes 258 = .ok (.aload_n 0, 1) := by decide +kernel
theorem dX12_goes_259 : decode cX12_goes 259 = .ok (.getfield 361, 3) := by decide +kernel
theorem dX12_goes_262 : decode cX12_goes 262 = .ok (.invokevirtual 387, 3) := by decide +kernel
theorem dX12_goes_265 : decode cX12_goes 265 = .ok (.ifCond .eq 5, 3) := by decide +kernel
theorem dX12_goes_268 : decode cX12_goes 268 = .ok (.iconst 1, 1) := by decide +kernel
theorem dX12_goes_269 : decode cX12_goes 269 = .ok (.ireturn, 1) := by decide +kernel
theorem dX12_goes_270 : decode cX12_goes 270 = .ok (.aload_n 0, 1) := by decide +kernel
theorem dX12_goes_271 : decode cX12_goes 271 = .ok (.aload_n 0, 1) := by decide +kernel
theorem dX12_goes_272 : decode cX12_goes 272 = .ok (.getfield 23, 3) := by decide +kernel
theorem dX12_goes_275 : decode cX12_goes 275 = .ok (.iload 6, 2) := by decide +kernel
theorem dX12_goes_277 : decode cX12_goes 277 = .ok (.iaload, 1) := by decide +kernel
theorem dX12_goes_278 : decode cX12_goes 278 = .ok (.putfield 348, 3) := by decide +kernel
theorem dX12_goes_281 : decode cX12_goes 281 = .ok (.iconst 0, 1) := by decide +kernel
theorem dX12_goes_282 : decode cX12_goes 282 = .ok (.ireturn, 1) := by decide +kernel
theorem dX12_keep_0 : decode cX12_keep 0 = .ok (.aload_n 0, 1) := by decide +kernel
theorem dX12_keep_1 : decode cX12_keep 1 = .ok (.iconst 1, 1) := by decide +kernel
theorem dX12_keep_2 : decode cX12_keep 2 = .ok (.putfield 391, 3) := by decide +kernel
theorem dX12_keep_5 : decode cX12_keep 5 = .ok (.aload_n 0, 1) := by decide +kernel
theorem dX12_keep_6 : decode cX12_keep 6 = .ok (.iload_n 1, 1) := by decide +kernel
theorem dX12_keep_7 : decode cX12_keep 7 = .ok (.putfield 394, 3) := by decide +kernel
theorem dX12_keep_10 : decode cX12_keep 10 = .ok (.aload_n 0, 1) := by decide +kernel
theorem dX12_keep_11 : decode cX12_keep 11 = .ok (.aload_n 0, 1) := by decide +kernel
theorem dX12_keep_12 : decode cX12_keep 12 = .ok (.getfield 348, 3) := by decide +kernel
theorem dX12_keep_15 : decode cX12_keep 15 = .ok (.putfield 397, 3) := by decide +kernel
theorem dX12_keep_18 : decode cX12_keep 18 = .ok (.aload_n 0, 1) := by decide +kernel
theorem dX12_keep_19 : decode cX12_keep 19 = .ok (.aload_n 0, 1) := by decide +kernel
theorem dX12_keep_20 : decode cX12_keep 20 = .ok (.getfield 351, 3) := by decide +kernel
theorem dX12_keep_23 : decode cX12_keep 23 = .ok (.putfield 400, 3) := by decide +kernel
theorem dX12_keep_26 : decode cX12_keep 26 = .ok (.aload_n 0, 1) := by decide +kernel
theorem dX12_keep_27 : decode cX12_keep 27 = .ok (.aload_n 0, 1) := by decide +kernel
theorem dX12_keep_28 : decode cX12_keep 28 = .ok (.getfield 358, 3) := by decide +kernel
theorem dX12_keep_31 : decode cX12_keep 31 = .ok (.putfield 403, 3) := by decide +kernel
theorem dX12_keep_34 : decode cX12_keep 34 = .ok (.aload_n 0, 1) := by decide +kernel
theorem dX12_keep_35 : decode cX12_keep 35 = .ok (.aload_n 0, 1) := by decide +kernel
theorem dX12_keep_36 : decode cX12_keep 36 = .ok (.getfield 361, 3) := by decide +kernel
theorem dX12_keep_39 : decode cX12_keep 39 = .ok (.putfield 406, 3) := by decide +kernel
theorem dX12_keep_42 : decode cX12_keep 42 = .ok (.aload_n 0, 1) := by decide +kernel
theorem dX12_keep_43 : decode cX12_keep 43 = .ok (.getfield 23, 3) := by decide +kernel
theorem dX12_keep_46 : decode cX12_keep 46 = .ok (.aload_n 0, 1) := by decide +kernel
theorem dX12_keep_47 : decode cX12_keep 47 = .ok (.getfield 65, 3) := by decide +kernel
theorem dX12_keep_50 : decode cX12_keep 50 = .ok (.iload_n 1, 1) := by decide +kernel
theorem dX12_keep_51 : decode cX12_keep 51 = .ok (.iaload, 1) := by decide +kernel
theorem dX12_keep_52 : decode cX12_keep 52 = .ok (.iaload, 1) := by decide +kernel
theorem dX12_keep_53 : decode cX12_keep 53 = .ok (.istore_n 3, 1) := by decide +kernel
theorem dX12_keep_54 : decode cX12_keep 54 = .ok (.aload_n 0, 1) := by decide +kernel
theorem dX12_keep_55 : decode cX12_keep 55 = .ok (.aload_n 0, 1) := by decide +kernel
theorem dX12_keep_56 : decode cX12_keep 56 = .ok (.getfield 348, 3) := by decide +kernel
theorem dX12_keep_59 : decode cX12_keep 59 = .ok (.iconst (-1), 1) := by decide +kernel
theorem dX12_keep_60 : decode cX12_keep 60 = .ok (.if_icmp .ne 7, 3) := by decide +kernel
theorem dX12_keep_63 : decode cX12_keep 63 = .ok (.iload_n 3, 1) := by decide +kernel
theorem dX12_keep_64 : decode cX12_keep 64 = .ok (.goto 13, 3) := by decide +kernel
theorem dX12_keep_67 : decode cX12_keep 67 = .ok (.iload_n 3, 1) := by decide +kernel
theorem dX12_keep_68 : decode cX12_keep 68 = .ok (.aload_n 0, 1) := by decide +kernel
theorem dX12_keep_69 : decode cX12_keep 69 = .ok (.getfield 348, 3) := by decide +kernel
theorem dX12_keep_72 : decode cX12_keep 72 = .ok (.iconst 1, 1) := by decide +kernel
theorem dX12_keep_73 : decode cX12_keep 73 = .ok (.iadd, 1) := by decide +kernel
theorem dX12_keep_74 : decode cX12_keep 74 = .ok (.invokestatic 409, 3) := by decide +kernel
theorem dX12_keep_77 : decode cX12_keep 77 = .ok (.putfield 411, 3) := by decide +kernel
theorem dX12_keep_80 : decode cX12_keep 80 = .ok (.iconst 0, 1) := by decide +kernel
theorem dX12_keep_81 : decode cX12_keep 81 = .ok (.istore 4, 2) := by decide +kernel
theorem dX12_keep_83 : decode cX12_keep 83 = .ok (.iload 4, 2) := by decide +kernel
theorem dX12_keep_85 : decode cX12_keep 85 = .ok (.aload_n 0, 1) := by decide +kernel
theorem dX12_keep_86 : decode cX12_keep 86 = .ok (.getfield 83, 3) := by decide +kernel
theorem dX12_keep_89 : decode cX12_keep 89 = .ok (.arraylength, 1) := by decide +kernel
theorem dX12_keep_90 : decode cX12_keep 90 = .ok (.if_icmp .ge 23, 3) := by decide +kernel
theorem dX12_keep_93 : decode cX12_keep 93 = .ok (.aload_n 0, 1) := by decide +kernel
theorem dX12_keep_94 : decode cX12_keep 94 = .ok (.getfield 83, 3) := by decide +kernel
theorem dX12_keep_97 : decode cX12_keep 97 = .ok (.iload 4, 2) := by decide +kernel
theorem dX12_keep_99 : decode cX12_keep 99 = .ok (.aload_n 0, 1) := by decide +kernel
theorem dX12_keep_100 : decode cX12_keep 100 = .ok (.getfield 80, 3) := by decide +kernel
theorem dX12_keep_103 : decode cX12_keep 103 = .ok (.iload 4, 2) := by decide +kernel
theorem dX12_keep_105 : decode cX12_keep 105 = .ok (.laload, 1) := by decide +kernel
theorem dX12_keep_106 : decode cX12_keep 106 = .ok (.lastore, 1) := by decide +kernel
theorem dX12_keep_107 : decode cX12_keep 107 = .ok (.iinc 4 1, 3) := by decide +kernel
theorem dX12_keep_110 : decode cX12_keep 110 = .ok (.goto (-27), 3) := by decide +kernel
theorem dX12_keep_113 : decode cX12_keep 113 = .ok (.iconst 0, 1) := by decide +kernel
theorem dX12_keep_114 : decode cX12_keep 114 = .ok (.istore 4, 2) := by decide +kernel
theorem dX12_keep_116 : decode cX12_keep 116 = .ok (.iload 4, 2) := by decide +kernel
theorem dX12_keep_118 : decode cX12_keep 118 = .ok (.bipush 6, 2) := by decide +kernel
theorem dX12_keep_120 : decode cX12_keep 120 = .ok (.if_icmp .ge 23, 3) := by decide +kernel
theorem dX12_keep_123 : decode cX12_keep 123 = .ok (.aload_n 0, 1) := by decide +kernel
theorem dX12_keep_124 : decode cX12_keep 124 = .ok (.getfield 86, 3) := by decide +kernel
theorem dX12_keep_127 : decode cX12_keep 127 = .ok (.iload 4, 2) := by decide +kernel
theorem dX12_keep_129 : decode cX12_keep 129 = .ok (.aload_n 0, 1) := by decide +kernel
theorem dX12_keep_130 : decode cX12_keep 130 = .ok (.getfield 77, 3) := by decide +kernel
theorem dX12_keep_133 : decode cX12_keep 133 = .ok (.iload 4, 2) := by decide +kernel
theorem dX12_keep_135 : decode cX12_keep 135 = .ok (.laload, 1) := by decide +kernel
theorem dX12_keep_136 : decode cX12_keep 136 = .ok (.lastore, 1) := by decide +kernel
theorem dX12_keep_137 : decode cX12_keep 137 = .ok (.iinc 4 1, 3) := by decide +kernel
theorem dX12_keep_140 : decode cX12_keep 140 = .ok (.goto (-24), 3) := by decide +kernel
theorem dX12_keep_143 : decode cX12_keep 143 = .ok (.iload_n 2, 1) := by decide +kernel
theorem dX12_keep_144 : decode cX12_keep 144 = .ok (.ifCond .eq 7, 3) := by decide +kernel
theorem dX12_keep_147 : decode cX12_keep 147 = .ok (.iconst 1, 1) := by decide +kernel
theorem dX12_keep_148 : decode cX12_keep 148 = .ok (.goto 4, 3) := by decide +kernel
theorem dX12_keep_151 : decode cX12_keep 151 = .ok (.iconst 0, 1) := by decide +kernel
theorem dX12_keep_152 : decode cX12_keep 152 = .ok (.ireturn, 1) := by decide +kernel
theorem dX12_isAsked_0 : decode cX12_isAsked 0 = .ok (.aload_n 0, 1) := by decide +kernel
theorem dX12_isAsked_1 : decode cX12_isAsked 1 = .ok (.iconst 0, 1) := by decide +kernel
theorem dX12_isAsked_2 : decode cX12_isAsked 2 = .ok (.putfield 101, 3) := by decide +kernel
theorem dX12_isAsked_5 : decode cX12_isAsked 5 = .ok (.aload_n 0, 1) := by decide +kernel
theorem dX12_isAsked_6 : decode cX12_isAsked 6 = .ok (.iload_n 1, 1) := by decide +kernel
theorem dX12_isAsked_7 : decode cX12_isAsked 7 = .ok (.invokevirtual 414, 3) := by decide +kernel
theorem dX12_isAsked_10 : decode cX12_isAsked 10 = .ok (.ifCond .eq 19, 3) := by decide +kernel
theorem dX12_isAsked_13 : decode cX12_isAsked 13 = .ok (.iload_n 2, 1) := by decide +kernel
theorem dX12_isAsked_14 : decode cX12_isAsked 14 = .ok (.i2l, 1) := by decide +kernel
theorem dX12_isAsked_15 : decode cX12_isAsked 15 = .ok (.lconst 0, 1) := by decide +kernel
theorem dX12_isAsked_16 : decode cX12_isAsked 16 = .ok (.ldc2_w 417, 3) := by decide +kernel
theorem dX12_isAsked_19 : decode cX12_isAsked 19 = .ok (.invokestatic 199, 3) := by decide +kernel
theorem dX12_isAsked_22 : decode cX12_isAsked 22 = .ok (.ifCond .eq 7, 3) := by decide +kernel
theorem dX12_isAsked_25 : decode cX12_isAsked 25 = .ok (.iconst 1, 1) := by decide +kernel
theorem dX12_isAsked_26 : decode cX12_isAsked 26 = .ok (.goto 4, 3) := by decide +kernel
theorem dX12_isAsked_29 : decode cX12_isAsked 29 = .ok (.iconst 0, 1) := by decide +kernel
theorem dX12_isAsked_30 : decode cX12_isAsked 30 = .ok (.ireturn, 1) := by decide +kernel
theorem dX12_run_0 : decode cX12_run 0 = .ok (.aload_n 0, 1) := by decide +kernel
theorem dX12_run_1 : decode cX12_run 1 = .ok (.iload_n 1, 1) := by decide +kernel
theorem dX12_run_2 : decode cX12_run 2 = .ok (.iload 4, 2) := by decide +kernel
theorem dX12_run_4 : decode cX12_run 4 = .ok (.invokevirtual 419, 3) := by decide +kernel
theorem dX12_run_7 : decode cX12_run 7 = .ok (.ifCond .eq 20, 3) := by decide +kernel
theorem dX12_run_10 : decode cX12_run 10 = .ok (.aload_n 0, 1) := by decide +kernel
theorem dX12_run_11 : decode cX12_run 11 = .ok (.iload_n 1, 1) := by decide +kernel
theorem dX12_run_12 : decode cX12_run 12 = .ok (.aload_n 0, 1) := by decide +kernel
theorem dX12_run_13 : decode cX12_run 13 = .ok (.iload_n 1, 1) := by decide +kernel
theorem dX12_run_14 : decode cX12_run 14 = .ok (.iconst 0, 1) := by decide +kernel
theorem dX12_run_15 : decode cX12_run 15 = .ok (.lload_n 2, 1) := by decide +kernel
theorem dX12_run_16 : decode cX12_run 16 = .ok (.iload 4, 2) := by decide +kernel
theorem dX12_run_18 : decode cX12_run 18 = .ok (.invokevirtual 422, 3) := by decide +kernel
theorem dX12_run_21 : decode cX12_run 21 = .ok (.invokevirtual 426, 3) := by decide +kernel
theorem dX12_run_24 : decode cX12_run 24 = .ok (.goto 4, 3) := by decide +kernel
theorem dX12_run_27 : decode cX12_run 27 = .ok (.iconst (-1), 1) := by decide +kernel
theorem dX12_run_28 : decode cX12_run 28 = .ok (.ireturn, 1) := by decide +kernel
theorem dX12_fixed_0 : decode cX12_fixed 0 = .ok (.aload_n 0, 1) := by decide +kernel
theorem dX12_fixed_1 : decode cX12_fixed 1 = .ok (.iload_n 1, 1) := by decide +kernel
theorem dX12_fixed_2 : decode cX12_fixed 2 = .ok (.iload_n 2, 1) := by decide +kernel
theorem dX12_fixed_3 : decode cX12_fixed 3 = .ok (.invokevirtual 419, 3) := by decide +kernel
theorem dX12_fixed_6 : decode cX12_fixed 6 = .ok (.ifCond .eq 19, 3) := by decide +kernel
theorem dX12_fixed_9 : decode cX12_fixed 9 = .ok (.aload_n 0, 1) := by decide +kernel
theorem dX12_fixed_10 : decode cX12_fixed 10 = .ok (.iload_n 1, 1) := by decide +kernel
theorem dX12_fixed_11 : decode cX12_fixed 11 = .ok (.aload_n 0, 1) := by decide +kernel
theorem dX12_fixed_12 : decode cX12_fixed 12 = .ok (.iload_n 1, 1) := by decide +kernel
theorem dX12_fixed_13 : decode cX12_fixed 13 = .ok (.iconst 1, 1) := by decide +kernel
theorem dX12_fixed_14 : decode cX12_fixed 14 = .ok (.lconst 0, 1) := by decide +kernel
theorem dX12_fixed_15 : decode cX12_fixed 15 = .ok (.iload_n 2, 1) := by decide +kernel
theorem dX12_fixed_16 : decode cX12_fixed 16 = .ok (.invokevirtual 422, 3) := by decide +kernel
theorem dX12_fixed_19 : decode cX12_fixed 19 = .ok (.invokevirtual 426, 3) := by decide +kernel
theorem dX12_fixed_22 : decode cX12_fixed 22 = .ok (.goto 4, 3) := by decide +kernel
theorem dX12_fixed_25 : decode cX12_fixed 25 = .ok (.iconst (-1), 1) := by decide +kernel
theorem dX12_fixed_26 : decode cX12_fixed 26 = .ok (.ireturn, 1) := by decide +kernel
theorem dX12_latest_0 : decode cX12_latest 0 = .ok (.aload_n 0, 1) := by decide +kernel
theorem dX12_latest_1 : decode cX12_latest 1 = .ok (.iconst 0, 1) := by decide +kernel
theorem dX12_latest_2 : decode cX12_latest 2 = .ok (.putfield 101, 3) := by decide +kernel
theorem dX12_latest_5 : decode cX12_latest 5 = .ok (.aload_n 0, 1) := by decide +kernel
theorem dX12_latest_6 : decode cX12_latest 6 = .ok (.getfield 391, 3) := by decide +kernel
theorem dX12_latest_9 : decode cX12_latest 9 = .ok (.ifCond .ne 5, 3) := by decide +kernel
theorem dX12_latest_12 : decode cX12_latest 12 = .ok (.iconst (-1), 1) := by decide +kernel
theorem dX12_latest_13 : decode cX12_latest 13 = .ok (.ireturn, 1) := by decide +kernel
theorem dX12_latest_14 : decode cX12_latest 14 = .ok (.iload_n 1, 1) := by decide +kernel
theorem dX12_latest_15 : decode cX12_latest 15 = .ok (.tableswitch 51 0 3 #[29, 35, 40, 46], 29) := by decide +kernel
theorem dX12_latest_44 : decode cX12_latest 44 = .ok (.aload_n 0, 1) := by decide +kernel
theorem dX12_latest_45 : decode cX12_latest 45 = .ok (.getfield 403, 3) := by decide +kernel
theorem dX12_latest_48 : decode cX12_latest 48 = .ok (.l2i, 1) := by decide +kernel
theorem dX12_latest_49 : decode cX12_latest 49 = .ok (.ireturn, 1) := by decide +kernel
theorem dX12_latest_50 : decode cX12_latest 50 = .ok (.aload_n 0, 1) := by decide +kernel
theorem dX12_latest_51 : decode cX12_latest 51 = .ok (.getfield 397, 3) := by decide +kernel
theorem dX12_latest_54 : decode cX12_latest 54 = .ok (.ireturn, 1) := by decide +kernel
theorem dX12_latest_55 : decode cX12_latest 55 = .ok (.aload_n 0, 1) := by decide +kernel
theorem dX12_latest_56 : decode cX12_latest 56 = .ok (.getfield 406, 3) := by decide +kernel
theorem dX12_latest_59 : decode cX12_latest 59 = .ok (.l2i, 1) := by decide +kernel
theorem dX12_latest_60 : decode cX12_latest 60 = .ok (.ireturn, 1) := by decide +kernel
theorem dX12_latest_61 : decode cX12_latest 61 = .ok (.aload_n 0, 1) := by decide +kernel
theorem dX12_latest_62 : decode cX12_latest 62 = .ok (.getfield 400, 3) := by decide +kernel
theorem dX12_latest_65 : decode cX12_latest 65 = .ok (.ireturn, 1) := by decide +kernel
theorem dX12_latest_66 : decode cX12_latest 66 = .ok (.iconst (-1), 1) := by decide +kernel
theorem dX12_latest_67 : decode cX12_latest 67 = .ok (.ireturn, 1) := by decide +kernel
theorem dX12_value_0 : decode cX12_value 0 = .ok (.aload_n 0, 1) := by decide +kernel
theorem dX12_value_1 : decode cX12_value 1 = .ok (.aload_n 0, 1) := by decide +kernel
theorem dX12_value_2 : decode cX12_value 2 = .ok (.getfield 391, 3) := by decide +kernel
theorem dX12_value_5 : decode cX12_value 5 = .ok (.ifCond .eq 60, 3) := by decide +kernel
theorem dX12_value_8 : decode cX12_value 8 = .ok (.iload_n 1, 1) := by decide +kernel
theorem dX12_value_9 : decode cX12_value 9 = .ok (.i2l, 1) := by decide +kernel
theorem dX12_value_10 : decode cX12_value 10 = .ok (.lconst 0, 1) := by decide +kernel
theorem dX12_value_11 : decode cX12_value 11 = .ok (.aload_n 0, 1) := by decide +kernel
theorem dX12_value_12 : decode cX12_value 12 = .ok (.getfield 411, 3) := by decide +kernel
theorem dX12_value_15 : decode cX12_value 15 = .ok (.iconst 1, 1) := by decide +kernel
theorem dX12_value_16 : decode cX12_value 16 = .ok (.isub, 1) := by decide +kernel
theorem dX12_value_17 : decode cX12_value 17 = .ok (.i2l, 1) := by decide +kernel
theorem dX12_value_18 : decode cX12_value 18 = .ok (.invokestatic 199, 3) := by decide +kernel
theorem dX12_value_21 : decode cX12_value 21 = .ok (.ifCond .eq 44, 3) := by decide +kernel
theorem dX12_value_24 : decode cX12_value 24 = .ok (.iload_n 2, 1) := by decide +kernel
theorem dX12_value_25 : decode cX12_value 25 = .ok (.i2l, 1) := by decide +kernel
theorem dX12_value_26 : decode cX12_value 26 = .ok (.lconst 0, 1) := by decide +kernel
theorem dX12_value_27 : decode cX12_value 27 = .ok (.aload_n 0, 1) := by decide +kernel
theorem dX12_value_28 : decode cX12_value 28 = .ok (.getfield 26, 3) := by decide +kernel
theorem dX12_value_31 : decode cX12_value 31 = .ok (.bipush 6, 2) := by decide +kernel
theorem dX12_value_33 : decode cX12_value 33 = .ok (.aload_n 0, 1) := by decide +kernel
theorem dX12_value_34 : decode cX12_value 34 = .ok (.getfield 65, 3) := by decide +kernel
theorem dX12_value_37 : decode cX12_value 37 = .ok (.aload_n 0, 1) := by decide +kernel
theorem dX12_value_38 : decode cX12_value 38 = .ok (.getfield 394, 3) := by decide +kernel
theorem dX12_value_41 : decode cX12_value 41 = .ok (.iaload, 1) := by decide +kernel
theorem dX12_value_42 : decode cX12_value 42 = .ok (.imul, 1) := by decide +kernel
theorem dX12_value_43 : decode cX12_value 43 = .ok (.iconst 0, 1) := by decide +kernel
theorem dX12_value_44 : decode cX12_value 44 = .ok (.iload_n 1, 1) := by decide +kernel
theorem dX12_value_45 : decode cX12_value 45 = .ok (.iconst 5, 1) := by decide +kernel
theorem dX12_value_46 : decode cX12_value 46 = .ok (.invokestatic 409, 3) := by decide +kernel
theorem dX12_value_49 : decode cX12_value 49 = .ok (.invokestatic 145, 3) := by decide +kernel
theorem dX12_value_52 : decode cX12_value 52 = .ok (.iadd, 1) := by decide +kernel
theorem dX12_value_53 : decode cX12_value 53 = .ok (.iaload, 1) := by decide +kernel
theorem dX12_value_54 : decode cX12_value 54 = .ok (.i2l, 1) := by decide +kernel
theorem dX12_value_55 : decode cX12_value 55 = .ok (.invokestatic 199, 3) := by decide +kernel
theorem dX12_value_58 : decode cX12_value 58 = .ok (.ifCond .eq 7, 3) := by decide +kernel
theorem dX12_value_61 : decode cX12_value 61 = .ok (.iconst 0, 1) := by decide +kernel
theorem dX12_value_62 : decode cX12_value 62 = .ok (.goto 4, 3) := by decide +kernel
theorem dX12_value_65 : decode cX12_value 65 = .ok (.iconst 1, 1) := by decide +kernel
