theorem dX12_value_66 : decode cX12_value 66 = .ok (.putfield 101, 3) := by decide +kernel
theorem dX12_value_69 : decode cX12_value 69 = .ok (.aload_n 0, 1) := by decide +kernel
theorem dX12_value_70 : decode cX12_value 70 = .ok (.getfield 101, 3) := by decide +kernel
theorem dX12_value_73 : decode cX12_value 73 = .ok (.ifCond .le 7, 3) := by decide +kernel
theorem dX12_value_76 : decode cX12_value 76 = .ok (.iconst 0, 1) := by decide +kernel
theorem dX12_value_77 : decode cX12_value 77 = .ok (.goto 16, 3) := by decide +kernel
theorem dX12_value_80 : decode cX12_value 80 = .ok (.aload_n 0, 1) := by decide +kernel
theorem dX12_value_81 : decode cX12_value 81 = .ok (.getfield 83, 3) := by decide +kernel
theorem dX12_value_84 : decode cX12_value 84 = .ok (.sipush 201, 3) := by decide +kernel
theorem dX12_value_87 : decode cX12_value 87 = .ok (.iload_n 1, 1) := by decide +kernel
theorem dX12_value_88 : decode cX12_value 88 = .ok (.imul, 1) := by decide +kernel
theorem dX12_value_89 : decode cX12_value 89 = .ok (.iload_n 2, 1) := by decide +kernel
theorem dX12_value_90 : decode cX12_value 90 = .ok (.iadd, 1) := by decide +kernel
theorem dX12_value_91 : decode cX12_value 91 = .ok (.laload, 1) := by decide +kernel
theorem dX12_value_92 : decode cX12_value 92 = .ok (.l2i, 1) := by decide +kernel
theorem dX12_value_93 : decode cX12_value 93 = .ok (.ireturn, 1) := by decide +kernel
theorem dX12_draw_0 : decode cX12_draw 0 = .ok (.aload_n 0, 1) := by decide +kernel
theorem dX12_draw_1 : decode cX12_draw 1 = .ok (.iconst 0, 1) := by decide +kernel
theorem dX12_draw_2 : decode cX12_draw 2 = .ok (.putfield 101, 3) := by decide +kernel
theorem dX12_draw_5 : decode cX12_draw 5 = .ok (.aload_n 0, 1) := by decide +kernel
theorem dX12_draw_6 : decode cX12_draw 6 = .ok (.getfield 391, 3) := by decide +kernel
theorem dX12_draw_9 : decode cX12_draw 9 = .ok (.ifCond .eq 29, 3) := by decide +kernel
theorem dX12_draw_12 : decode cX12_draw 12 = .ok (.iload_n 1, 1) := by decide +kernel
theorem dX12_draw_13 : decode cX12_draw 13 = .ok (.i2l, 1) := by decide +kernel
theorem dX12_draw_14 : decode cX12_draw 14 = .ok (.lconst 0, 1) := by decide +kernel
theorem dX12_draw_15 : decode cX12_draw 15 = .ok (.aload_n 0, 1) := by decide +kernel
theorem dX12_draw_16 : decode cX12_draw 16 = .ok (.getfield 400, 3) := by decide +kernel
theorem dX12_draw_19 : decode cX12_draw 19 = .ok (.iconst 1, 1) := by decide +kernel
theorem dX12_draw_20 : decode cX12_draw 20 = .ok (.isub, 1) := by decide +kernel
theorem dX12_draw_21 : decode cX12_draw 21 = .ok (.i2l, 1) := by decide +kernel
theorem dX12_draw_22 : decode cX12_draw 22 = .ok (.invokestatic 199, 3) := by decide +kernel
theorem dX12_draw_25 : decode cX12_draw 25 = .ok (.ifCond .eq 13, 3) := by decide +kernel
theorem dX12_draw_28 : decode cX12_draw 28 = .ok (.aload_n 0, 1) := by decide +kernel
theorem dX12_draw_29 : decode cX12_draw 29 = .ok (.getfield 86, 3) := by decide +kernel
theorem dX12_draw_32 : decode cX12_draw 32 = .ok (.iload_n 1, 1) := by decide +kernel
theorem dX12_draw_33 : decode cX12_draw 33 = .ok (.laload, 1) := by decide +kernel
theorem dX12_draw_34 : decode cX12_draw 34 = .ok (.l2i, 1) := by decide +kernel
theorem dX12_draw_35 : decode cX12_draw 35 = .ok (.goto 4, 3) := by decide +kernel
theorem dX12_draw_38 : decode cX12_draw 38 = .ok (.iconst (-1), 1) := by decide +kernel
theorem dX12_draw_39 : decode cX12_draw 39 = .ok (.ireturn, 1) := by decide +kernel
theorem dX12_tries_0 : decode cX12_tries 0 = .ok (.aload_n 0, 1) := by decide +kernel
theorem dX12_tries_1 : decode cX12_tries 1 = .ok (.iconst 0, 1) := by decide +kernel
theorem dX12_tries_2 : decode cX12_tries 2 = .ok (.putfield 101, 3) := by decide +kernel
theorem dX12_tries_5 : decode cX12_tries 5 = .ok (.aload_n 0, 1) := by decide +kernel
theorem dX12_tries_6 : decode cX12_tries 6 = .ok (.iload_n 1, 1) := by decide +kernel
theorem dX12_tries_7 : decode cX12_tries 7 = .ok (.invokevirtual 414, 3) := by decide +kernel
theorem dX12_tries_10 : decode cX12_tries 10 = .ok (.ifCond .eq 15, 3) := by decide +kernel
theorem dX12_tries_13 : decode cX12_tries 13 = .ok (.iload_n 2, 1) := by decide +kernel
theorem dX12_tries_14 : decode cX12_tries 14 = .ok (.i2l, 1) := by decide +kernel
theorem dX12_tries_15 : decode cX12_tries 15 = .ok (.lconst 1, 1) := by decide +kernel
theorem dX12_tries_16 : decode cX12_tries 16 = .ok (.ldc2_w 430, 3) := by decide +kernel
theorem dX12_tries_19 : decode cX12_tries 19 = .ok (.invokestatic 199, 3) := by decide +kernel
theorem dX12_tries_22 : decode cX12_tries 22 = .ok (.ifCond .ne 5, 3) := by decide +kernel
theorem dX12_tries_25 : decode cX12_tries 25 = .ok (.iconst (-1), 1) := by decide +kernel
theorem dX12_tries_26 : decode cX12_tries 26 = .ok (.ireturn, 1) := by decide +kernel
theorem dX12_tries_27 : decode cX12_tries 27 = .ok (.iconst 0, 1) := by decide +kernel
theorem dX12_tries_28 : decode cX12_tries 28 = .ok (.istore_n 3, 1) := by decide +kernel
theorem dX12_tries_29 : decode cX12_tries 29 = .ok (.iload_n 3, 1) := by decide +kernel
theorem dX12_tries_30 : decode cX12_tries 30 = .ok (.iload_n 2, 1) := by decide +kernel
theorem dX12_tries_31 : decode cX12_tries 31 = .ok (.if_icmp .ge 22, 3) := by decide +kernel
theorem dX12_tries_34 : decode cX12_tries 34 = .ok (.aload_n 0, 1) := by decide +kernel
theorem dX12_tries_35 : decode cX12_tries 35 = .ok (.iload_n 1, 1) := by decide +kernel
theorem dX12_tries_36 : decode cX12_tries 36 = .ok (.iconst 1, 1) := by decide +kernel
theorem dX12_tries_37 : decode cX12_tries 37 = .ok (.lconst 0, 1) := by decide +kernel
theorem dX12_tries_38 : decode cX12_tries 38 = .ok (.iload_n 3, 1) := by decide +kernel
theorem dX12_tries_39 : decode cX12_tries 39 = .ok (.invokevirtual 422, 3) := by decide +kernel
theorem dX12_tries_42 : decode cX12_tries 42 = .ok (.ifCond .eq 5, 3) := by decide +kernel
theorem dX12_tries_45 : decode cX12_tries 45 = .ok (.iload_n 3, 1) := by decide +kernel
theorem dX12_tries_46 : decode cX12_tries 46 = .ok (.ireturn, 1) := by decide +kernel
theorem dX12_tries_47 : decode cX12_tries 47 = .ok (.iinc 3 1, 3) := by decide +kernel
theorem dX12_tries_50 : decode cX12_tries 50 = .ok (.goto (-21), 3) := by decide +kernel
theorem dX12_tries_53 : decode cX12_tries 53 = .ok (.iconst (-1), 1) := by decide +kernel
theorem dX12_tries_54 : decode cX12_tries 54 = .ok (.ireturn, 1) := by decide +kernel
theorem dX12_spent_0 : decode cX12_spent 0 = .ok (.aload_n 0, 1) := by decide +kernel
theorem dX12_spent_1 : decode cX12_spent 1 = .ok (.iconst 0, 1) := by decide +kernel
theorem dX12_spent_2 : decode cX12_spent 2 = .ok (.putfield 101, 3) := by decide +kernel
theorem dX12_spent_5 : decode cX12_spent 5 = .ok (.aload_n 0, 1) := by decide +kernel
theorem dX12_spent_6 : decode cX12_spent 6 = .ok (.iload_n 1, 1) := by decide +kernel
theorem dX12_spent_7 : decode cX12_spent 7 = .ok (.invokevirtual 414, 3) := by decide +kernel
theorem dX12_spent_10 : decode cX12_spent 10 = .ok (.ifCond .eq 13, 3) := by decide +kernel
theorem dX12_spent_13 : decode cX12_spent 13 = .ok (.iload_n 2, 1) := by decide +kernel
theorem dX12_spent_14 : decode cX12_spent 14 = .ok (.i2l, 1) := by decide +kernel
theorem dX12_spent_15 : decode cX12_spent 15 = .ok (.lconst 0, 1) := by decide +kernel
theorem dX12_spent_16 : decode cX12_spent 16 = .ok (.lconst 1, 1) := by decide +kernel
theorem dX12_spent_17 : decode cX12_spent 17 = .ok (.invokestatic 199, 3) := by decide +kernel
theorem dX12_spent_20 : decode cX12_spent 20 = .ok (.ifCond .ne 5, 3) := by decide +kernel
theorem dX12_spent_23 : decode cX12_spent 23 = .ok (.iconst (-1), 1) := by decide +kernel
theorem dX12_spent_24 : decode cX12_spent 24 = .ok (.ireturn, 1) := by decide +kernel
theorem dX12_spent_25 : decode cX12_spent 25 = .ok (.aload_n 0, 1) := by decide +kernel
theorem dX12_spent_26 : decode cX12_spent 26 = .ok (.getfield 65, 3) := by decide +kernel
theorem dX12_spent_29 : decode cX12_spent 29 = .ok (.iload_n 1, 1) := by decide +kernel
theorem dX12_spent_30 : decode cX12_spent 30 = .ok (.iaload, 1) := by decide +kernel
theorem dX12_spent_31 : decode cX12_spent 31 = .ok (.istore_n 3, 1) := by decide +kernel
theorem dX12_spent_32 : decode cX12_spent 32 = .ok (.iload_n 2, 1) := by decide +kernel
theorem dX12_spent_33 : decode cX12_spent 33 = .ok (.iconst 1, 1) := by decide +kernel
theorem dX12_spent_34 : decode cX12_spent 34 = .ok (.if_icmp .ne 17, 3) := by decide +kernel
theorem dX12_spent_37 : decode cX12_spent 37 = .ok (.aload_n 0, 1) := by decide +kernel
theorem dX12_spent_38 : decode cX12_spent 38 = .ok (.getfield 29, 3) := by decide +kernel
theorem dX12_spent_41 : decode cX12_spent 41 = .ok (.iload_n 3, 1) := by decide +kernel
theorem dX12_spent_42 : decode cX12_spent 42 = .ok (.iaload, 1) := by decide +kernel
theorem dX12_spent_43 : decode cX12_spent 43 = .ok (.aload_n 0, 1) := by decide +kernel
theorem dX12_spent_44 : decode cX12_spent 44 = .ok (.getfield 23, 3) := by decide +kernel
theorem dX12_spent_47 : decode cX12_spent 47 = .ok (.iload_n 3, 1) := by decide +kernel
theorem dX12_spent_48 : decode cX12_spent 48 = .ok (.iaload, 1) := by decide +kernel
theorem dX12_spent_49 : decode cX12_spent 49 = .ok (.ishl, 1) := by decide +kernel
theorem dX12_spent_50 : decode cX12_spent 50 = .ok (.ireturn, 1) := by decide +kernel
theorem dX12_spent_51 : decode cX12_spent 51 = .ok (.aload_n 0, 1) := by decide +kernel
theorem dX12_spent_52 : decode cX12_spent 52 = .ok (.aload_n 0, 1) := by decide +kernel
theorem dX12_spent_53 : decode cX12_spent 53 = .ok (.getfield 71, 3) := by decide +kernel
theorem dX12_spent_56 : decode cX12_spent 56 = .ok (.iload_n 1, 1) := by decide +kernel
theorem dX12_spent_57 : decode cX12_spent 57 = .ok (.iaload, 1) := by decide +kernel
theorem dX12_spent_58 : decode cX12_spent 58 = .ok (.iload_n 3, 1) := by decide +kernel
theorem dX12_spent_59 : decode cX12_spent 59 = .ok (.aload_n 0, 1) := by decide +kernel
theorem dX12_spent_60 : decode cX12_spent 60 = .ok (.getfield 68, 3) := by decide +kernel
theorem dX12_spent_63 : decode cX12_spent 63 = .ok (.iload_n 1, 1) := by decide +kernel
theorem dX12_spent_64 : decode cX12_spent 64 = .ok (.iaload, 1) := by decide +kernel
theorem dX12_spent_65 : decode cX12_spent 65 = .ok (.invokevirtual 337, 3) := by decide +kernel
theorem dX12_spent_68 : decode cX12_spent 68 = .ok (.ifCond .eq 12, 3) := by decide +kernel
theorem dX12_spent_71 : decode cX12_spent 71 = .ok (.aload_n 0, 1) := by decide +kernel
theorem dX12_spent_72 : decode cX12_spent 72 = .ok (.getfield 29, 3) := by decide +kernel
theorem dX12_spent_75 : decode cX12_spent 75 = .ok (.iload_n 3, 1) := by decide +kernel
theorem dX12_spent_76 : decode cX12_spent 76 = .ok (.iaload, 1) := by decide +kernel
theorem dX12_spent_77 : decode cX12_spent 77 = .ok (.goto 4, 3) := by decide +kernel
theorem dX12_spent_80 : decode cX12_spent 80 = .ok (.iconst 0, 1) := by decide +kernel
theorem dX12_spent_81 : decode cX12_spent 81 = .ok (.istore 4, 2) := by decide +kernel
theorem dX12_spent_83 : decode cX12_spent 83 = .ok (.iconst 0, 1) := by decide +kernel
theorem dX12_spent_84 : decode cX12_spent 84 = .ok (.istore 5, 2) := by decide +kernel
theorem dX12_spent_86 : decode cX12_spent 86 = .ok (.iload 5, 2) := by decide +kernel
theorem dX12_spent_88 : decode cX12_spent 88 = .ok (.aload_n 0, 1) := by decide +kernel
theorem dX12_spent_89 : decode cX12_spent 89 = .ok (.getfield 23, 3) := by decide +kernel
theorem dX12_spent_92 : decode cX12_spent 92 = .ok (.iload_n 3, 1) := by decide +kernel
theorem dX12_spent_93 : decode cX12_spent 93 = .ok (.iaload, 1) := by decide +kernel
theorem dX12_spent_94 : decode cX12_spent 94 = .ok (.if_icmp .ge 65, 3) := by decide +kernel
theorem dX12_spent_97 : decode cX12_spent 97 = .ok (.aload_n 0, 1) := by decide +kernel
theorem dX12_spent_98 : decode cX12_spent 98 = .ok (.getfield 26, 3) := by decide +kernel
theorem dX12_spent_101 : decode cX12_spent 101 = .ok (.bipush 6, 2) := by decide +kernel
theorem dX12_spent_103 : decode cX12_spent 103 = .ok (.iload_n 3, 1) := by decide +kernel
theorem dX12_spent_104 : decode cX12_spent 104 = .ok (.imul, 1) := by decide +kernel
theorem dX12_spent_105 : decode cX12_spent 105 = .ok (.iload 5, 2) := by decide +kernel
theorem dX12_spent_107 : decode cX12_spent 107 = .ok (.iadd, 1) := by decide +kernel
theorem dX12_spent_108 : decode cX12_spent 108 = .ok (.iaload, 1) := by decide +kernel
theorem dX12_spent_109 : decode cX12_spent 109 = .ok (.iconst 1, 1) := by decide +kernel
theorem dX12_spent_110 : decode cX12_spent 110 = .ok (.iadd, 1) := by decide +kernel
theorem dX12_spent_111 : decode cX12_spent 111 = .ok (.istore 6, 2) := by decide +kernel
theorem dX12_spent_113 : decode cX12_spent 113 = .ok (.iload 4, 2) := by decide +kernel
theorem dX12_spent_115 : decode cX12_spent 115 = .ok (.iconst 2, 1) := by decide +kernel
theorem dX12_spent_116 : decode cX12_spent 116 = .ok (.iload 6, 2) := by decide +kernel
theorem dX12_spent_118 : decode cX12_spent 118 = .ok (.imul, 1) := by decide +kernel
theorem dX12_spent_119 : decode cX12_spent 119 = .ok (.iload 6, 2) := by decide +kernel
theorem dX12_spent_121 : decode cX12_spent 121 = .ok (.imul, 1) := by decide +kernel
theorem dX12_spent_122 : decode cX12_spent 122 = .ok (.aload_n 0, 1) := by decide +kernel
theorem dX12_spent_123 : decode cX12_spent 123 = .ok (.aload_n 0, 1) := by decide +kernel
theorem dX12_spent_124 : decode cX12_spent 124 = .ok (.getfield 71, 3) := by decide +kernel
theorem dX12_spent_127 : decode cX12_spent 127 = .ok (.iload_n 1, 1) := by decide +kernel
theorem dX12_spent_128 : decode cX12_spent 128 = .ok (.iaload, 1) := by decide +kernel
theorem dX12_spent_129 : decode cX12_spent 129 = .ok (.iload_n 3, 1) := by decide +kernel
theorem dX12_spent_130 : decode cX12_spent 130 = .ok (.aload_n 0, 1) := by decide +kernel
theorem dX12_spent_131 : decode cX12_spent 131 = .ok (.getfield 68, 3) := by decide +kernel
theorem dX12_spent_134 : decode cX12_spent 134 = .ok (.iload_n 1, 1) := by decide +kernel
theorem dX12_spent_135 : decode cX12_spent 135 = .ok (.iaload, 1) := by decide +kernel
theorem dX12_spent_136 : decode cX12_spent 136 = .ok (.iload 5, 2) := by decide +kernel
theorem dX12_spent_138 : decode cX12_spent 138 = .ok (.invokevirtual 372, 3) := by decide +kernel
theorem dX12_spent_141 : decode cX12_spent 141 = .ok (.ifCond .eq 7, 3) := by decide +kernel
theorem dX12_spent_144 : decode cX12_spent 144 = .ok (.iconst 1, 1) := by decide +kernel
theorem dX12_spent_145 : decode cX12_spent 145 = .ok (.goto 4, 3) := by decide +kernel
theorem dX12_spent_148 : decode cX12_spent 148 = .ok (.iconst 0, 1) := by decide +kernel
theorem dX12_spent_149 : decode cX12_spent 149 = .ok (.iadd, 1) := by decide +kernel
theorem dX12_spent_150 : decode cX12_spent 150 = .ok (.iadd, 1) := by decide +kernel
theorem dX12_spent_151 : decode cX12_spent 151 = .ok (.istore 4, 2) := by decide +kernel
theorem dX12_spent_153 : decode cX12_spent 153 = .ok (.iinc 5 1, 3) := by decide +kernel
theorem dX12_spent_156 : decode cX12_spent 156 = .ok (.goto (-70), 3) := by decide +kernel
theorem dX12_spent_159 : decode cX12_spent 159 = .ok (.iload 4, 2) := by decide +kernel
theorem dX12_spent_161 : decode cX12_spent 161 = .ok (.ireturn, 1) := by decide +kernel
theorem dX12_believed_0 : decode cX12_believed 0 = .ok (.aload_n 0, 1) := by decide +kernel
theorem dX12_believed_1 : decode cX12_believed 1 = .ok (.getfield 65, 3) := by decide +kernel
theorem dX12_believed_4 : decode cX12_believed 4 = .ok (.iload_n 1, 1) := by decide +kernel
theorem dX12_believed_5 : decode cX12_believed 5 = .ok (.iaload, 1) := by decide +kernel
theorem dX12_believed_6 : decode cX12_believed 6 = .ok (.istore 6, 2) := by decide +kernel
theorem dX12_believed_8 : decode cX12_believed 8 = .ok (.iload_n 3, 1) := by decide +kernel
theorem dX12_believed_9 : decode cX12_believed 9 = .ok (.aload_n 0, 1) := by decide +kernel
theorem dX12_believed_10 : decode cX12_believed 10 = .ok (.getfield 23, 3) := by decide +kernel
theorem dX12_believed_13 : decode cX12_believed 13 = .ok (.iload 6, 2) := by decide +kernel
theorem dX12_believed_15 : decode cX12_believed 15 = .ok (.iaload, 1) := by decide +kernel
theorem dX12_believed_16 : decode cX12_believed 16 = .ok (.if_icmp .ne 19, 3) := by decide +kernel
theorem dX12_believed_19 : decode cX12_believed 19 = .ok (.aload_n 0, 1) := by decide +kernel
theorem dX12_believed_20 : decode cX12_believed 20 = .ok (.iload_n 1, 1) := by decide +kernel
theorem dX12_believed_21 : decode cX12_believed 21 = .ok (.lload 4, 2) := by decide +kernel
theorem dX12_believed_23 : decode cX12_believed 23 = .ok (.invokevirtual 387, 3) := by decide +kernel
theorem dX12_believed_26 : decode cX12_believed 26 = .ok (.ifCond .eq 7, 3) := by decide +kernel
theorem dX12_believed_29 : decode cX12_believed 29 = .ok (.iconst 1, 1) := by decide +kernel
theorem dX12_believed_30 : decode cX12_believed 30 = .ok (.goto 4, 3) := by decide +kernel
theorem dX12_believed_33 : decode cX12_believed 33 = .ok (.iconst 0, 1) := by decide +kernel
theorem dX12_believed_34 : decode cX12_believed 34 = .ok (.ireturn, 1) := by decide +kernel
theorem dX12_believed_35 : decode cX12_believed 35 = .ok (.aload_n 0, 1) := by decide +kernel
theorem dX12_believed_36 : decode cX12_believed 36 = .ok (.iload_n 1, 1) := by decide +kernel
theorem dX12_believed_37 : decode cX12_believed 37 = .ok (.iload_n 3, 1) := by decide +kernel
theorem dX12_believed_38 : decode cX12_believed 38 = .ok (.lload 4, 2) := by decide +kernel
theorem dX12_believed_40 : decode cX12_believed 40 = .ok (.iload_n 2, 1) := by decide +kernel
theorem dX12_believed_41 : decode cX12_believed 41 = .ok (.invokevirtual 368, 3) := by decide +kernel
theorem dX12_believed_44 : decode cX12_believed 44 = .ok (.aload_n 0, 1) := by decide +kernel
theorem dX12_believed_45 : decode cX12_believed 45 = .ok (.aload_n 0, 1) := by decide +kernel
theorem dX12_believed_46 : decode cX12_believed 46 = .ok (.getfield 71, 3) := by decide +kernel
theorem dX12_believed_49 : decode cX12_believed 49 = .ok (.iload_n 1, 1) := by decide +kernel
theorem dX12_believed_50 : decode cX12_believed 50 = .ok (.iaload, 1) := by decide +kernel
theorem dX12_believed_51 : decode cX12_believed 51 = .ok (.iload 6, 2) := by decide +kernel
theorem dX12_believed_53 : decode cX12_believed 53 = .ok (.aload_n 0, 1) := by decide +kernel
theorem dX12_believed_54 : decode cX12_believed 54 = .ok (.getfield 68, 3) := by decide +kernel
theorem dX12_believed_57 : decode cX12_believed 57 = .ok (.iload_n 1, 1) := by decide +kernel
theorem dX12_believed_58 : decode cX12_believed 58 = .ok (.iaload, 1) := by decide +kernel
theorem dX12_believed_59 : decode cX12_believed 59 = .ok (.iload_n 3, 1) := by decide +kernel
theorem dX12_believed_60 : decode cX12_believed 60 = .ok (.invokevirtual 372, 3) := by decide +kernel
theorem dX12_believed_63 : decode cX12_believed 63 = .ok (.ifCond .eq 16, 3) := by decide +kernel
theorem dX12_believed_66 : decode cX12_believed 66 = .ok (.aload_n 0, 1) := by decide +kernel
theorem dX12_believed_67 : decode cX12_believed 67 = .ok (.iload_n 1, 1) := by decide +kernel
theorem dX12_believed_68 : decode cX12_believed 68 = .ok (.iload_n 3, 1) := by decide +kernel
theorem dX12_believed_69 : decode cX12_believed 69 = .ok (.lload 4, 2) := by decide +kernel
theorem dX12_believed_71 : decode cX12_believed 71 = .ok (.invokevirtual 376, 3) := by decide +kernel
theorem dX12_believed_74 : decode cX12_believed 74 = .ok (.ifCond .ne 5, 3) := by decide +kernel
theorem dX12_believed_77 : decode cX12_believed 77 = .ok (.iconst 0, 1) := by decide +kernel
theorem dX12_believed_78 : decode cX12_believed 78 = .ok (.ireturn, 1) := by decide +kernel
theorem dX12_believed_79 : decode cX12_believed 79 = .ok (.iconst 0, 1) := by decide +kernel
theorem dX12_believed_80 : decode cX12_believed 80 = .ok (.istore 7, 2) := by decide +kernel
theorem dX12_believed_82 : decode cX12_believed 82 = .ok (.aload_n 0, 1) := by decide +kernel
theorem dX12_believed_83 : decode cX12_believed 83 = .ok (.aload_n 0, 1) := by decide +kernel
theorem dX12_believed_84 : decode cX12_believed 84 = .ok (.getfield 71, 3) := by decide +kernel
theorem dX12_believed_87 : decode cX12_believed 87 = .ok (.iload_n 1, 1) := by decide +kernel
theorem dX12_believed_88 : decode cX12_believed 88 = .ok (.iaload, 1) := by decide +kernel
theorem dX12_believed_89 : decode cX12_believed 89 = .ok (.iload 6, 2) := by decide +kernel
theorem dX12_believed_91 : decode cX12_believed 91 = .ok (.aload_n 0, 1) := by decide +kernel
theorem dX12_believed_92 : decode cX12_believed 92 = .ok (.getfield 68, 3) := by decide +kernel
theorem dX12_believed_95 : decode cX12_believed 95 = .ok (.iload_n 1, 1) := by decide +kernel
theorem dX12_believed_96 : decode cX12_believed 96 = .ok (.iaload, 1) := by decide +kernel
theorem dX12_believed_97 : decode cX12_believed 97 = .ok (.iload_n 3, 1) := by decide +kernel
theorem dX12_believed_98 : decode cX12_believed 98 = .ok (.invokevirtual 380, 3) := by decide +kernel
theorem dX12_believed_101 : decode cX12_believed 101 = .ok (.istore 8, 2) := by decide +kernel
theorem dX12_believed_103 : decode cX12_believed 103 = .ok (.iconst 0, 1) := by decide +kernel
theorem dX12_believed_104 : decode cX12_believed 104 = .ok (.istore 9, 2) := by decide +kernel
theorem dX12_believed_106 : decode cX12_believed 106 = .ok (.iload 9, 2) := by decide +kernel
theorem dX12_believed_108 : decode cX12_believed 108 = .ok (.iload 8, 2) := by decide +kernel
theorem dX12_believed_110 : decode cX12_believed 110 = .ok (.if_icmp .ge 38, 3) := by decide +kernel
theorem dX12_believed_113 : decode cX12_believed 113 = .ok (.aload_n 0, 1) := by decide +kernel
theorem dX12_believed_114 : decode cX12_believed 114 = .ok (.getfield 77, 3) := by decide +kernel
theorem dX12_believed_117 : decode cX12_believed 117 = .ok (.iload_n 3, 1) := by decide +kernel
theorem dX12_believed_118 : decode cX12_believed 118 = .ok (.iload 9, 2) := by decide +kernel
theorem dX12_believed_120 : decode cX12_believed 120 = .ok (.i2l, 1) := by decide +kernel
theorem dX12_believed_121 : decode cX12_believed 121 = .ok (.lastore, 1) := by decide +kernel
theorem dX12_believed_122 : decode cX12_believed 122 = .ok (.iload 7, 2) := by decide +kernel
theorem dX12_believed_124 : decode cX12_believed 124 = .ok (.aload_n 0, 1) := by decide +kernel
theorem dX12_believed_125 : decode cX12_believed 125 = .ok (.iload_n 1, 1) := by decide +kernel
theorem dX12_believed_126 : decode cX12_believed 126 = .ok (.iload_n 2, 1) := by decide +kernel
theorem dX12_believed_127 : decode cX12_believed 127 = .ok (.iload_n 3, 1) := by decide +kernel
theorem dX12_believed_128 : decode cX12_believed 128 = .ok (.iconst 1, 1) := by decide +kernel
theorem dX12_believed_129 : decode cX12_believed 129 = .ok (.iadd, 1) := by decide +kernel
theorem dX12_believed_130 : decode cX12_believed 130 = .ok (.aload_n 0, 1) := by decide +kernel
theorem dX12_believed_131 : decode cX12_believed 131 = .ok (.iload_n 1, 1) := by decide +kernel
theorem dX12_believed_132 : decode cX12_believed 132 = .ok (.iload_n 3, 1) := by decide +kernel
theorem dX12_believed_133 : decode cX12_believed 133 = .ok (.invokevirtual 384, 3) := by decide +kernel
theorem dX12_believed_136 : decode cX12_believed 136 = .ok (.invokevirtual 432, 3) := by decide +kernel
theorem dX12_believed_139 : decode cX12_believed 139 = .ok (.iadd, 1) := by decide +kernel
theorem dX12_believed_140 : decode cX12_believed 140 = .ok (.istore 7, 2) := by decide +kernel
theorem dX12_believed_142 : decode cX12_believed 142 = .ok (.iinc 9 1, 3) := by decide +kernel
theorem dX12_believed_145 : decode cX12_believed 145 = .ok (.goto (-39), 3) := by decide +kernel
theorem dX12_believed_148 : decode cX12_believed 148 = .ok (.iload 7, 2) := by decide +kernel
theorem dX12_believed_150 : decode cX12_believed 150 = .ok (.ireturn, 1) := by decide +kernel
theorem dX12_odds_0 : decode cX12_odds 0 = .ok (.aload_n 0, 1) := by decide +kernel
theorem dX12_odds_1 : decode cX12_odds 1 = .ok (.iload_n 1, 1) := by decide +kernel
theorem dX12_odds_2 : decode cX12_odds 2 = .ok (.iload_n 2, 1) := by decide +kernel
theorem dX12_odds_3 : decode cX12_odds 3 = .ok (.invokevirtual 419, 3) := by decide +kernel
theorem dX12_odds_6 : decode cX12_odds 6 = .ok (.ifCond .eq 13, 3) := by decide +kernel
theorem dX12_odds_9 : decode cX12_odds 9 = .ok (.iload_n 3, 1) := by decide +kernel
theorem dX12_odds_10 : decode cX12_odds 10 = .ok (.i2l, 1) := by decide +kernel
theorem dX12_odds_11 : decode cX12_odds 11 = .ok (.lconst 0, 1) := by decide +kernel
theorem dX12_odds_12 : decode cX12_odds 12 = .ok (.lconst 1, 1) := by decide +kernel
theorem dX12_odds_13 : decode cX12_odds 13 = .ok (.invokestatic 199, 3) := by decide +kernel
theorem dX12_odds_16 : decode cX12_odds 16 = .ok (.ifCond .ne 5, 3) := by decide +kernel
theorem dX12_odds_19 : decode cX12_odds 19 = .ok (.iconst (-1), 1) := by decide +kernel
theorem dX12_odds_20 : decode cX12_odds 20 = .ok (.ireturn, 1) := by decide +kernel
theorem dX12_odds_21 : decode cX12_odds 21 = .ok (.aload_n 0, 1) := by decide +kernel
theorem dX12_odds_22 : decode cX12_odds 22 = .ok (.getfield 65, 3) := by decide +kernel
theorem dX12_odds_25 : decode cX12_odds 25 = .ok (.iload_n 1, 1) := by decide +kernel
theorem dX12_odds_26 : decode cX12_odds 26 = .ok (.iaload, 1) := by decide +kernel
theorem dX12_odds_27 : decode cX12_odds 27 = .ok (.istore 4, 2) := by decide +kernel
theorem dX12_odds_29 : decode cX12_odds 29 = .ok (.lconst 1, 1) := by decide +kernel
theorem dX12_odds_30 : decode cX12_odds 30 = .ok (.lstore 5, 2) := by decide +kernel
theorem dX12_odds_32 : decode cX12_odds 32 = .ok (.iconst 0, 1) := by decide +kernel
theorem dX12_odds_33 : decode cX12_odds 33 = .ok (.istore 7, 2) := by decide +kernel
theorem dX12_odds_35 : decode cX12_odds 35 = .ok (.iload 7, 2) := by decide +kernel
theorem dX12_odds_37 : decode cX12_odds 37 = .ok (.aload_n 0, 1) := by decide +kernel
theorem dX12_odds_38 : decode cX12_odds 38 = .ok (.getfield 23, 3) := by decide +kernel
theorem dX12_odds_41 : decode cX12_odds 41 = .ok (.iload 4, 2) := by decide +kernel
theorem dX12_odds_43 : decode cX12_odds 43 = .ok (.iaload, 1) := by decide +kernel
theorem dX12_odds_44 : decode cX12_odds 44 = .ok (.if_icmp .ge 44, 3) := by decide +kernel
theorem dX12_odds_47 : decode cX12_odds 47 = .ok (.lload 5, 2) := by decide +kernel
theorem dX12_odds_49 : decode cX12_odds 49 = .ok (.ldc2_w 436, 3) := by decide +kernel
theorem dX12_odds_52 : decode cX12_odds 52 = .ok (.lcmp, 1) := by decide +kernel
theorem dX12_odds_53 : decode cX12_odds 53 = .ok (.ifCond .gt 35, 3) := by decide +kernel
theorem dX12_odds_56 : decode cX12_odds 56 = .ok (.lload 5, 2) := by decide +kernel
theorem dX12_odds_58 : decode cX12_odds 58 = .ok (.aload_n 0, 1) := by decide +kernel
theorem dX12_odds_59 : decode cX12_odds 59 = .ok (.aload_n 0, 1) := by decide +kernel
theorem dX12_odds_60 : decode cX12_odds 60 = .ok (.getfield 71, 3) := by decide +kernel
theorem dX12_odds_63 : decode cX12_odds 63 = .ok (.iload_n 1, 1) := by decide +kernel
theorem dX12_odds_64 : decode cX12_odds 64 = .ok (.iaload, 1) := by decide +kernel
theorem dX12_odds_65 : decode cX12_odds 65 = .ok (.iload 4, 2) := by decide +kernel
theorem dX12_odds_67 : decode cX12_odds 67 = .ok (.aload_n 0, 1) := by decide +kernel
theorem dX12_odds_68 : decode cX12_odds 68 = .ok (.getfield 68, 3) := by decide +kernel
theorem dX12_odds_71 : decode cX12_odds 71 = .ok (.iload_n 1, 1) := by decide +kernel
theorem dX12_odds_72 : decode cX12_odds 72 = .ok (.iaload, 1) := by decide +kernel
theorem dX12_odds_73 : decode cX12_odds 73 = .ok (.iload 7, 2) := by decide +kernel
theorem dX12_odds_75 : decode cX12_odds 75 = .ok (.invokevirtual 380, 3) := by decide +kernel
theorem dX12_odds_78 : decode cX12_odds 78 = .ok (.i2l, 1) := by decide +kernel
theorem dX12_odds_79 : decode cX12_odds 79 = .ok (.lmul, 1) := by decide +kernel
theorem dX12_odds_80 : decode cX12_odds 80 = .ok (.lstore 5, 2) := by decide +kernel
theorem dX12_odds_82 : decode cX12_odds 82 = .ok (.iinc 7 1, 3) := by decide +kernel
theorem dX12_odds_85 : decode cX12_odds 85 = .ok (.goto (-50), 3) := by decide +kernel
theorem dX12_odds_88 : decode cX12_odds 88 = .ok (.lload 5, 2) := by decide +kernel
theorem dX12_odds_90 : decode cX12_odds 90 = .ok (.ldc2_w 436, 3) := by decide +kernel
theorem dX12_odds_93 : decode cX12_odds 93 = .ok (.lcmp, 1) := by decide +kernel
theorem dX12_odds_94 : decode cX12_odds 94 = .ok (.ifCond .le 5, 3) := by decide +kernel
theorem dX12_odds_97 : decode cX12_odds 97 = .ok (.iconst (-1), 1) := by decide +kernel
theorem dX12_odds_98 : decode cX12_odds 98 = .ok (.ireturn, 1) := by decide +kernel
theorem dX12_odds_99 : decode cX12_odds 99 = .ok (.iload_n 3, 1) := by decide +kernel
theorem dX12_odds_100 : decode cX12_odds 100 = .ok (.iconst 1, 1) := by decide +kernel
theorem dX12_odds_101 : decode cX12_odds 101 = .ok (.if_icmp .ne 9, 3) := by decide +kernel
theorem dX12_odds_104 : decode cX12_odds 104 = .ok (.lload 5, 2) := by decide +kernel
theorem dX12_odds_106 : decode cX12_odds 106 = .ok (.l2i, 1) := by decide +kernel
theorem dX12_odds_107 : decode cX12_odds 107 = .ok (.goto 16, 3) := by decide +kernel
theorem dX12_odds_110 : decode cX12_odds 110 = .ok (.aload_n 0, 1) := by decide +kernel
theorem dX12_odds_111 : decode cX12_odds 111 = .ok (.iload_n 1, 1) := by decide +kernel
theorem dX12_odds_112 : decode cX12_odds 112 = .ok (.iload_n 2, 1) := by decide +kernel
theorem dX12_odds_113 : decode cX12_odds 113 = .ok (.iconst 0, 1) := by decide +kernel
theorem dX12_odds_114 : decode cX12_odds 114 = .ok (.aload_n 0, 1) := by decide +kernel
theorem dX12_odds_115 : decode cX12_odds 115 = .ok (.iload_n 1, 1) := by decide +kernel
theorem dX12_odds_116 : decode cX12_odds 116 = .ok (.iload_n 2, 1) := by decide +kernel
theorem dX12_odds_117 : decode cX12_odds 117 = .ok (.invokevirtual 354, 3) := by decide +kernel
theorem dX12_odds_120 : decode cX12_odds 120 = .ok (.invokevirtual 432, 3) := by decide +kernel
theorem dX12_odds_123 : decode cX12_odds 123 = .ok (.ireturn, 1) := by decide +kernel
theorem dX12_product_0 : decode cX12_product 0 = .ok (.lconst 1, 1) := by decide +kernel
theorem dX12_product_1 : decode cX12_product 1 = .ok (.lstore 4, 2) := by decide +kernel
theorem dX12_product_3 : decode cX12_product 3 = .ok (.iconst 0, 1) := by decide +kernel
theorem dX12_product_4 : decode cX12_product 4 = .ok (.istore 6, 2) := by decide +kernel
theorem dX12_product_6 : decode cX12_product 6 = .ok (.iload 6, 2) := by decide +kernel
theorem dX12_product_8 : decode cX12_product 8 = .ok (.aload_n 0, 1) := by decide +kernel
theorem dX12_product_9 : decode cX12_product 9 = .ok (.getfield 23, 3) := by decide +kernel
theorem dX12_product_12 : decode cX12_product 12 = .ok (.iload_n 1, 1) := by decide +kernel
theorem dX12_product_13 : decode cX12_product 13 = .ok (.iaload, 1) := by decide +kernel
theorem dX12_product_14 : decode cX12_product 14 = .ok (.if_icmp .ge 51, 3) := by decide +kernel
theorem dX12_product_17 : decode cX12_product 17 = .ok (.aload_n 0, 1) := by decide +kernel
theorem dX12_product_18 : decode cX12_product 18 = .ok (.iload_n 2, 1) := by decide +kernel
theorem dX12_product_19 : decode cX12_product 19 = .ok (.iload_n 1, 1) := by decide +kernel
theorem dX12_product_20 : decode cX12_product 20 = .ok (.iload_n 3, 1) := by decide +kernel
theorem dX12_product_21 : decode cX12_product 21 = .ok (.iload 6, 2) := by decide +kernel
theorem dX12_product_23 : decode cX12_product 23 = .ok (.invokevirtual 380, 3) := by decide +kernel
theorem dX12_product_26 : decode cX12_product 26 = .ok (.istore 7, 2) := by decide +kernel
theorem dX12_product_28 : decode cX12_product 28 = .ok (.iload 7, 2) := by decide +kernel
theorem dX12_product_30 : decode cX12_product 30 = .ok (.sipush 1000, 3) := by decide +kernel
theorem dX12_product_33 : decode cX12_product 33 = .ok (.if_icmp .gt 16, 3) := by decide +kernel
theorem dX12_product_36 : decode cX12_product 36 = .ok (.lload 4, 2) := by decide +kernel
theorem dX12_product_38 : decode cX12_product 38 = .ok (.ldc2_w 438, 3) := by decide +kernel
theorem dX12_product_41 : decode cX12_product 41 = .ok (.iload 7, 2) := by decide +kernel
theorem dX12_product_43 : decode cX12_product 43 = .ok (.i2l, 1) := by decide +kernel
theorem dX12_product_44 : decode cX12_product 44 = .ok (.ldiv, 1) := by decide +kernel
theorem dX12_product_45 : decode cX12_product 45 = .ok (.lcmp, 1) := by decide +kernel
theorem dX12_product_46 : decode cX12_product 46 = .ok (.ifCond .le 5, 3) := by decide +kernel
theorem dX12_product_49 : decode cX12_product 49 = .ok (.lconst 0, 1) := by decide +kernel
theorem dX12_product_50 : decode cX12_product 50 = .ok (.lreturn, 1) := by decide +kernel
theorem dX12_product_51 : decode cX12_product 51 = .ok (.lload 4, 2) := by decide +kernel
theorem dX12_product_53 : decode cX12_product 53 = .ok (.iload 7, 2) := by decide +kernel
theorem dX12_product_55 : decode cX12_product 55 = .ok (.i2l, 1) := by decide +kernel
theorem dX12_product_56 : decode cX12_product 56 = .ok (.lmul, 1) := by decide +kernel
theorem dX12_product_57 : decode cX12_product 57 = .ok (.lstore 4, 2) := by decide +kernel
theorem dX12_product_59 : decode cX12_product 59 = .ok (.iinc 6 1, 3) := by decide +kernel
theorem dX12_product_62 : decode cX12_product 62 = .ok (.goto (-56), 3) := by decide +kernel
theorem dX12_product_65 : decode cX12_product 65 = .ok (.lload 4, 2) := by decide +kernel
theorem dX12_product_67 : decode cX12_product 67 = .ok (.lreturn, 1) := by decide +kernel
theorem dX12_rootsIn_0 : decode cX12_rootsIn 0 = .ok (.aload_n 0, 1) := by decide +kernel
theorem dX12_rootsIn_1 : decode cX12_rootsIn 1 = .ok (.iload_n 2, 1) := by decide +kernel
theorem dX12_rootsIn_2 : decode cX12_rootsIn 2 = .ok (.iload_n 1, 1) := by decide +kernel
theorem dX12_rootsIn_3 : decode cX12_rootsIn 3 = .ok (.iload_n 3, 1) := by decide +kernel
theorem dX12_rootsIn_4 : decode cX12_rootsIn 4 = .ok (.iload 4, 2) := by decide +kernel
theorem dX12_rootsIn_6 : decode cX12_rootsIn 6 = .ok (.invokevirtual 380, 3) := by decide +kernel
theorem dX12_rootsIn_9 : decode cX12_rootsIn 9 = .ok (.istore 5, 2) := by decide +kernel
theorem dX12_rootsIn_11 : decode cX12_rootsIn 11 = .ok (.aload_n 0, 1) := by decide +kernel
theorem dX12_rootsIn_12 : decode cX12_rootsIn 12 = .ok (.iload_n 2, 1) := by decide +kernel
theorem dX12_rootsIn_13 : decode cX12_rootsIn 13 = .ok (.iload_n 1, 1) := by decide +kernel
theorem dX12_rootsIn_14 : decode cX12_rootsIn 14 = .ok (.iload_n 3, 1) := by decide +kernel
theorem dX12_rootsIn_15 : decode cX12_rootsIn 15 = .ok (.iload 4, 2) := by decide +kernel
theorem dX12_rootsIn_17 : decode cX12_rootsIn 17 = .ok (.invokevirtual 372, 3) := by decide +kernel
theorem dX12_rootsIn_20 : decode cX12_rootsIn 20 = .ok (.ifCond .ne 6, 3) := by decide +kernel
theorem dX12_rootsIn_23 : decode cX12_rootsIn 23 = .ok (.iload 5, 2) := by decide +kernel
theorem dX12_rootsIn_25 : decode cX12_rootsIn 25 = .ok (.ireturn, 1) := by decide +kernel
theorem dX12_rootsIn_26 : decode cX12_rootsIn 26 = .ok (.aload_n 0, 1) := by decide +kernel
theorem dX12_rootsIn_27 : decode cX12_rootsIn 27 = .ok (.getfield 26, 3) := by decide +kernel
theorem dX12_rootsIn_30 : decode cX12_rootsIn 30 = .ok (.bipush 6, 2) := by decide +kernel
theorem dX12_rootsIn_32 : decode cX12_rootsIn 32 = .ok (.iload_n 1, 1) := by decide +kernel
theorem dX12_rootsIn_33 : decode cX12_rootsIn 33 = .ok (.imul, 1) := by decide +kernel
theorem dX12_rootsIn_34 : decode cX12_rootsIn 34 = .ok (.iload 4, 2) := by decide +kernel
theorem dX12_rootsIn_36 : decode cX12_rootsIn 36 = .ok (.iadd, 1) := by decide +kernel
theorem dX12_rootsIn_37 : decode cX12_rootsIn 37 = .ok (.iaload, 1) := by decide +kernel
theorem dX12_rootsIn_38 : decode cX12_rootsIn 38 = .ok (.iload 5, 2) := by decide +kernel
theorem dX12_rootsIn_40 : decode cX12_rootsIn 40 = .ok (.iconst 1, 1) := by decide +kernel
theorem dX12_rootsIn_41 : decode cX12_rootsIn 41 = .ok (.if_icmp .ne 7, 3) := by decide +kernel
theorem dX12_rootsIn_44 : decode cX12_rootsIn 44 = .ok (.iconst 1, 1) := by decide +kernel
theorem dX12_rootsIn_45 : decode cX12_rootsIn 45 = .ok (.goto 7, 3) := by decide +kernel
theorem dX12_rootsIn_48 : decode cX12_rootsIn 48 = .ok (.iload 5, 2) := by decide +kernel
theorem dX12_rootsIn_50 : decode cX12_rootsIn 50 = .ok (.iconst 1, 1) := by decide +kernel
theorem dX12_rootsIn_51 : decode cX12_rootsIn 51 = .ok (.isub, 1) := by decide +kernel
theorem dX12_rootsIn_52 : decode cX12_rootsIn 52 = .ok (.invokestatic 409, 3) := by decide +kernel
theorem dX12_rootsIn_55 : decode cX12_rootsIn 55 = .ok (.ireturn, 1) := by decide +kernel
theorem dX12_common_0 : decode cX12_common 0 = .ok (.lload_n 0, 1) := by decide +kernel
theorem dX12_common_1 : decode cX12_common 1 = .ok (.lstore 4, 2) := by decide +kernel
theorem dX12_common_3 : decode cX12_common 3 = .ok (.lload_n 2, 1) := by decide +kernel
theorem dX12_common_4 : decode cX12_common 4 = .ok (.lstore 6, 2) := by decide +kernel
theorem dX12_common_6 : decode cX12_common 6 = .ok (.lload 6, 2) := by decide +kernel
theorem dX12_common_8 : decode cX12_common 8 = .ok (.lconst 0, 1) := by decide +kernel
theorem dX12_common_9 : decode cX12_common 9 = .ok (.lcmp, 1) := by decide +kernel
theorem dX12_common_10 : decode cX12_common 10 = .ok (.ifCond .eq 21, 3) := by decide +kernel
theorem dX12_common_13 : decode cX12_common 13 = .ok (.lload 4, 2) := by decide +kernel
theorem dX12_common_15 : decode cX12_common 15 = .ok (.lload 6, 2) := by decide +kernel
theorem dX12_common_17 : decode cX12_common 17 = .ok (.lrem, 1) := by decide +kernel
theorem dX12_common_18 : decode cX12_common 18 = .ok (.lstore 8, 2) := by decide +kernel
theorem dX12_common_20 : decode cX12_common 20 = .ok (.lload 6, 2) := by decide +kernel
theorem dX12_common_22 : decode cX12_common 22 = .ok (.lstore 4, 2) := by decide +kernel
theorem dX12_common_24 : decode cX12_common 24 = .ok (.lload 8, 2) := by decide +kernel
theorem dX12_common_26 : decode cX12_common 26 = .ok (.lstore 6, 2) := by decide +kernel
theorem dX12_common_28 : decode cX12_common 28 = .ok (.goto (-22), 3) := by decide +kernel
theorem dX12_common_31 : decode cX12_common 31 = .ok (.lload 4, 2) := by decide +kernel
theorem dX12_common_33 : decode cX12_common 33 = .ok (.lreturn, 1) := by decide +kernel
theorem dX12_fraction_0 : decode cX12_fraction 0 = .ok (.lload_n 2, 1) := by decide +kernel
theorem dX12_fraction_1 : decode cX12_fraction 1 = .ok (.lload_n 0, 1) := by decide +kernel
theorem dX12_fraction_2 : decode cX12_fraction 2 = .ok (.invokestatic 440, 3) := by decide +kernel
theorem dX12_fraction_5 : decode cX12_fraction 5 = .ok (.lstore 5, 2) := by decide +kernel
theorem dX12_fraction_7 : decode cX12_fraction 7 = .ok (.iload 4, 2) := by decide +kernel
theorem dX12_fraction_9 : decode cX12_fraction 9 = .ok (.ifCond .ne 7, 3) := by decide +kernel
theorem dX12_fraction_12 : decode cX12_fraction 12 = .ok (.lload_n 0, 1) := by decide +kernel
theorem dX12_fraction_13 : decode cX12_fraction 13 = .ok (.goto 4, 3) := by decide +kernel
theorem dX12_fraction_16 : decode cX12_fraction 16 = .ok (.lload_n 2, 1) := by decide +kernel
theorem dX12_fraction_17 : decode cX12_fraction 17 = .ok (.lload 5, 2) := by decide +kernel
theorem dX12_fraction_19 : decode cX12_fraction 19 = .ok (.ldiv, 1) := by decide +kernel
theorem dX12_fraction_20 : decode cX12_fraction 20 = .ok (.lreturn, 1) := by decide +kernel
theorem dX12_bestOf_0 : decode cX12_bestOf 0 = .ok (.aload_n 0, 1) := by decide +kernel
theorem dX12_bestOf_1 : decode cX12_bestOf 1 = .ok (.iload_n 1, 1) := by decide +kernel
theorem dX12_bestOf_2 : decode cX12_bestOf 2 = .ok (.iload_n 2, 1) := by decide +kernel
theorem dX12_bestOf_3 : decode cX12_bestOf 3 = .ok (.iload_n 3, 1) := by decide +kernel
theorem dX12_bestOf_4 : decode cX12_bestOf 4 = .ok (.invokevirtual 443, 3) := by decide +kernel
theorem dX12_bestOf_7 : decode cX12_bestOf 7 = .ok (.lstore 5, 2) := by decide +kernel
theorem dX12_bestOf_9 : decode cX12_bestOf 9 = .ok (.lload 5, 2) := by decide +kernel
theorem dX12_bestOf_11 : decode cX12_bestOf 11 = .ok (.lconst 0, 1) := by decide +kernel
theorem dX12_bestOf_12 : decode cX12_bestOf 12 = .ok (.lcmp, 1) := by decide +kernel
theorem dX12_bestOf_13 : decode cX12_bestOf 13 = .ok (.ifCond .ne 7, 3) := by decide +kernel
theorem dX12_bestOf_16 : decode cX12_bestOf 16 = .ok (.ldc2_w 446, 3) := by decide +kernel
theorem dX12_bestOf_19 : decode cX12_bestOf 19 = .ok (.lreturn, 1) := by decide +kernel
theorem dX12_bestOf_20 : decode cX12_bestOf 20 = .ok (.aload_n 0, 1) := by decide +kernel
theorem dX12_bestOf_21 : decode cX12_bestOf 21 = .ok (.iload_n 2, 1) := by decide +kernel
theorem dX12_bestOf_22 : decode cX12_bestOf 22 = .ok (.iload_n 1, 1) := by decide +kernel
theorem dX12_bestOf_23 : decode cX12_bestOf 23 = .ok (.iload_n 3, 1) := by decide +kernel
theorem dX12_bestOf_24 : decode cX12_bestOf 24 = .ok (.invokevirtual 337, 3) := by decide +kernel
theorem dX12_bestOf_27 : decode cX12_bestOf 27 = .ok (.ifCond .ne 5, 3) := by decide +kernel
theorem dX12_bestOf_30 : decode cX12_bestOf 30 = .ok (.lconst 1, 1) := by decide +kernel
theorem dX12_bestOf_31 : decode cX12_bestOf 31 = .ok (.lreturn, 1) := by decide +kernel
theorem dX12_bestOf_32 : decode cX12_bestOf 32 = .ok (.lconst 1, 1) := by decide +kernel
theorem dX12_bestOf_33 : decode cX12_bestOf 33 = .ok (.lstore 7, 2) := by decide +kernel
theorem dX12_bestOf_35 : decode cX12_bestOf 35 = .ok (.iconst 0, 1) := by decide +kernel
theorem dX12_bestOf_36 : decode cX12_bestOf 36 = .ok (.istore 9, 2) := by decide +kernel
theorem dX12_bestOf_38 : decode cX12_bestOf 38 = .ok (.iload 9, 2) := by decide +kernel
theorem dX12_bestOf_40 : decode cX12_bestOf 40 = .ok (.aload_n 0, 1) := by decide +kernel
theorem dX12_bestOf_41 : decode cX12_bestOf 41 = .ok (.getfield 23, 3) := by decide +kernel
theorem dX12_bestOf_44 : decode cX12_bestOf 44 = .ok (.iload_n 1, 1) := by decide +kernel
theorem dX12_bestOf_45 : decode cX12_bestOf 45 = .ok (.iaload, 1) := by decide +kernel
theorem dX12_bestOf_46 : decode cX12_bestOf 46 = .ok (.if_icmp .ge 34, 3) := by decide +kernel
theorem dX12_bestOf_49 : decode cX12_bestOf 49 = .ok (.lload 7, 2) := by decide +kernel
theorem dX12_bestOf_51 : decode cX12_bestOf 51 = .ok (.aload_n 0, 1) := by decide +kernel
theorem dX12_bestOf_52 : decode cX12_bestOf 52 = .ok (.iload_n 2, 1) := by decide +kernel
theorem dX12_bestOf_53 : decode cX12_bestOf 53 = .ok (.iload_n 1, 1) := by decide +kernel
theorem dX12_bestOf_54 : decode cX12_bestOf 54 = .ok (.iload_n 3, 1) := by decide +kernel
theorem dX12_bestOf_55 : decode cX12_bestOf 55 = .ok (.iload 9, 2) := by decide +kernel
theorem dX12_bestOf_57 : decode cX12_bestOf 57 = .ok (.invokevirtual 380, 3) := by decide +kernel
theorem dX12_bestOf_60 : decode cX12_bestOf 60 = .ok (.aload_n 0, 1) := by decide +kernel
theorem dX12_bestOf_61 : decode cX12_bestOf 61 = .ok (.iload_n 1, 1) := by decide +kernel
theorem dX12_bestOf_62 : decode cX12_bestOf 62 = .ok (.iload_n 2, 1) := by decide +kernel
theorem dX12_bestOf_63 : decode cX12_bestOf 63 = .ok (.iload_n 3, 1) := by decide +kernel
theorem dX12_bestOf_64 : decode cX12_bestOf 64 = .ok (.iload 9, 2) := by decide +kernel
theorem dX12_bestOf_66 : decode cX12_bestOf 66 = .ok (.invokevirtual 448, 3) := by decide +kernel
theorem dX12_bestOf_69 : decode cX12_bestOf 69 = .ok (.isub, 1) := by decide +kernel
theorem dX12_bestOf_70 : decode cX12_bestOf 70 = .ok (.i2l, 1) := by decide +kernel
theorem dX12_bestOf_71 : decode cX12_bestOf 71 = .ok (.lmul, 1) := by decide +kernel
theorem dX12_bestOf_72 : decode cX12_bestOf 72 = .ok (.lstore 7, 2) := by decide +kernel
theorem dX12_bestOf_74 : decode cX12_bestOf 74 = .ok (.iinc 9 1, 3) := by decide +kernel
theorem dX12_bestOf_77 : decode cX12_bestOf 77 = .ok (.goto (-39), 3) := by decide +kernel
theorem dX12_bestOf_80 : decode cX12_bestOf 80 = .ok (.lload 5, 2) := by decide +kernel
theorem dX12_bestOf_82 : decode cX12_bestOf 82 = .ok (.lload 7, 2) := by decide +kernel
theorem dX12_bestOf_84 : decode cX12_bestOf 84 = .ok (.lsub, 1) := by decide +kernel
theorem dX12_bestOf_85 : decode cX12_bestOf 85 = .ok (.lload 5, 2) := by decide +kernel
theorem dX12_bestOf_87 : decode cX12_bestOf 87 = .ok (.iload 4, 2) := by decide +kernel
theorem dX12_bestOf_89 : decode cX12_bestOf 89 = .ok (.invokestatic 451, 3) := by decide +kernel
theorem dX12_bestOf_92 : decode cX12_bestOf 92 = .ok (.lreturn, 1) := by decide +kernel
theorem dX12_best_0 : decode cX12_best 0 = .ok (.aload_n 0, 1) := by decide +kernel
theorem dX12_best_1 : decode cX12_best 1 = .ok (.iconst 0, 1) := by decide +kernel
theorem dX12_best_2 : decode cX12_best 2 = .ok (.putfield 101, 3) := by decide +kernel
theorem dX12_best_5 : decode cX12_best 5 = .ok (.aload_n 0, 1) := by decide +kernel
theorem dX12_best_6 : decode cX12_best 6 = .ok (.iload_n 1, 1) := by decide +kernel
theorem dX12_best_7 : decode cX12_best 7 = .ok (.invokevirtual 414, 3) := by decide +kernel
theorem dX12_best_10 : decode cX12_best 10 = .ok (.ifCond .eq 39, 3) := by decide +kernel
theorem dX12_best_13 : decode cX12_best 13 = .ok (.iload_n 2, 1) := by decide +kernel
theorem dX12_best_14 : decode cX12_best 14 = .ok (.i2l, 1) := by decide +kernel
theorem dX12_best_15 : decode cX12_best 15 = .ok (.lconst 0, 1) := by decide +kernel
theorem dX12_best_16 : decode cX12_best 16 = .ok (.lconst 1, 1) := by decide +kernel
theorem dX12_best_17 : decode cX12_best 17 = .ok (.invokestatic 199, 3) := by decide +kernel
theorem dX12_best_20 : decode cX12_best 20 = .ok (.ifCond .eq 29, 3) := by decide +kernel
theorem dX12_best_23 : decode cX12_best 23 = .ok (.aload_n 0, 1) := by decide +kernel
theorem dX12_best_24 : decode cX12_best 24 = .ok (.aload_n 0, 1) := by decide +kernel
theorem dX12_best_25 : decode cX12_best 25 = .ok (.getfield 65, 3) := by decide +kernel
theorem dX12_best_28 : decode cX12_best 28 = .ok (.iload_n 1, 1) := by decide +kernel
theorem dX12_best_29 : decode cX12_best 29 = .ok (.iaload, 1) := by decide +kernel
theorem dX12_best_30 : decode cX12_best 30 = .ok (.aload_n 0, 1) := by decide +kernel
theorem dX12_best_31 : decode cX12_best 31 = .ok (.getfield 71, 3) := by decide +kernel
theorem dX12_best_34 : decode cX12_best 34 = .ok (.iload_n 1, 1) := by decide +kernel
theorem dX12_best_35 : decode cX12_best 35 = .ok (.iaload, 1) := by decide +kernel
theorem dX12_best_36 : decode cX12_best 36 = .ok (.aload_n 0, 1) := by decide +kernel
theorem dX12_best_37 : decode cX12_best 37 = .ok (.getfield 68, 3) := by decide +kernel
theorem dX12_best_40 : decode cX12_best 40 = .ok (.iload_n 1, 1) := by decide +kernel
theorem dX12_best_41 : decode cX12_best 41 = .ok (.iaload, 1) := by decide +kernel
theorem dX12_best_42 : decode cX12_best 42 = .ok (.iload_n 2, 1) := by decide +kernel
theorem dX12_best_43 : decode cX12_best 43 = .ok (.invokevirtual 455, 3) := by decide +kernel
theorem dX12_best_46 : decode cX12_best 46 = .ok (.goto 6, 3) := by decide +kernel
theorem dX12_best_49 : decode cX12_best 49 = .ok (.ldc2_w 446, 3) := by decide +kernel
theorem dX12_best_52 : decode cX12_best 52 = .ok (.lreturn, 1) := by decide +kernel
theorem dX12_bound_0 : decode cX12_bound 0 = .ok (.aload_n 0, 1) := by decide +kernel
theorem dX12_bound_1 : decode cX12_bound 1 = .ok (.iconst 0, 1) := by decide +kernel
theorem dX12_bound_2 : decode cX12_bound 2 = .ok (.putfield 101, 3) := by decide +kernel
theorem dX12_bound_5 : decode cX12_bound 5 = .ok (.aload_n 0, 1) := by decide +kernel
theorem dX12_bound_6 : decode cX12_bound 6 = .ok (.iload_n 1, 1) := by decide +kernel
theorem dX12_bound_7 : decode cX12_bound 7 = .ok (.invokevirtual 414, 3) := by decide +kernel
theorem dX12_bound_10 : decode cX12_bound 10 = .ok (.ifCond .eq 13, 3) := by decide +kernel
theorem dX12_bound_13 : decode cX12_bound 13 = .ok (.iload_n 2, 1) := by decide +kernel
theorem dX12_bound_14 : decode cX12_bound 14 = .ok (.i2l, 1) := by decide +kernel
theorem dX12_bound_15 : decode cX12_bound 15 = .ok (.lconst 0, 1) := by decide +kernel
theorem dX12_bound_16 : decode cX12_bound 16 = .ok (.lconst 1, 1) := by decide +kernel
theorem dX12_bound_17 : decode cX12_bound 17 = .ok (.invokestatic 199, 3) := by decide +kernel
theorem dX12_bound_20 : decode cX12_bound 20 = .ok (.ifCond .ne 7, 3) := by decide +kernel
theorem dX12_bound_23 : decode cX12_bound 23 = .ok (.ldc2_w 446, 3) := by decide +kernel
theorem dX12_bound_26 : decode cX12_bound 26 = .ok (.lreturn, 1) := by decide +kernel
theorem dX12_bound_27 : decode cX12_bound 27 = .ok (.aload_n 0, 1) := by decide +kernel
theorem dX12_bound_28 : decode cX12_bound 28 = .ok (.getfield 65, 3) := by decide +kernel
theorem dX12_bound_31 : decode cX12_bound 31 = .ok (.iload_n 1, 1) := by decide +kernel
theorem dX12_bound_32 : decode cX12_bound 32 = .ok (.iaload, 1) := by decide +kernel
theorem dX12_bound_33 : decode cX12_bound 33 = .ok (.istore_n 3, 1) := by decide +kernel
theorem dX12_bound_34 : decode cX12_bound 34 = .ok (.aload_n 0, 1) := by decide +kernel
theorem dX12_bound_35 : decode cX12_bound 35 = .ok (.getfield 71, 3) := by decide +kernel
theorem dX12_bound_38 : decode cX12_bound 38 = .ok (.iload_n 1, 1) := by decide +kernel
theorem dX12_bound_39 : decode cX12_bound 39 = .ok (.iaload, 1) := by decide +kernel
theorem dX12_bound_40 : decode cX12_bound 40 = .ok (.istore 4, 2) := by decide +kernel
theorem dX12_bound_42 : decode cX12_bound 42 = .ok (.aload_n 0, 1) := by decide +kernel
theorem dX12_bound_43 : decode cX12_bound 43 = .ok (.getfield 68, 3) := by decide +kernel
theorem dX12_bound_46 : decode cX12_bound 46 = .ok (.iload_n 1, 1) := by decide +kernel
theorem dX12_bound_47 : decode cX12_bound 47 = .ok (.iaload, 1) := by decide +kernel
theorem dX12_bound_48 : decode cX12_bound 48 = .ok (.istore 5, 2) := by decide +kernel
theorem dX12_bound_50 : decode cX12_bound 50 = .ok (.aload_n 0, 1) := by decide +kernel
theorem dX12_bound_51 : decode cX12_bound 51 = .ok (.iload_n 3, 1) := by decide +kernel
theorem dX12_bound_52 : decode cX12_bound 52 = .ok (.iload 4, 2) := by decide +kernel
theorem dX12_bound_54 : decode cX12_bound 54 = .ok (.iload 5, 2) := by decide +kernel
theorem dX12_bound_56 : decode cX12_bound 56 = .ok (.invokevirtual 443, 3) := by decide +kernel
theorem dX12_bound_59 : decode cX12_bound 59 = .ok (.lstore 6, 2) := by decide +kernel
theorem dX12_bound_61 : decode cX12_bound 61 = .ok (.lload 6, 2) := by decide +kernel
theorem dX12_bound_63 : decode cX12_bound 63 = .ok (.lconst 0, 1) := by decide +kernel
theorem dX12_bound_64 : decode cX12_bound 64 = .ok (.lcmp, 1) := by decide +kernel
theorem dX12_bound_65 : decode cX12_bound 65 = .ok (.ifCond .ne 7, 3) := by decide +kernel
theorem dX12_bound_68 : decode cX12_bound 68 = .ok (.ldc2_w 446, 3) := by decide +kernel
theorem dX12_bound_71 : decode cX12_bound 71 = .ok (.lreturn, 1) := by decide +kernel
theorem dX12_bound_72 : decode cX12_bound 72 = .ok (.aload_n 0, 1) := by decide +kernel
theorem dX12_bound_73 : decode cX12_bound 73 = .ok (.iload 4, 2) := by decide +kernel
theorem dX12_bound_75 : decode cX12_bound 75 = .ok (.iload_n 3, 1) := by decide +kernel
theorem dX12_bound_76 : decode cX12_bound 76 = .ok (.iload 5, 2) := by decide +kernel
theorem dX12_bound_78 : decode cX12_bound 78 = .ok (.invokevirtual 337, 3) := by decide +kernel
theorem dX12_bound_81 : decode cX12_bound 81 = .ok (.ifCond .ne 5, 3) := by decide +kernel
theorem dX12_bound_84 : decode cX12_bound 84 = .ok (.lconst 1, 1) := by decide +kernel
theorem dX12_bound_85 : decode cX12_bound 85 = .ok (.lreturn, 1) := by decide +kernel
theorem dX12_bound_86 : decode cX12_bound 86 = .ok (.lconst 0, 1) := by decide +kernel
theorem dX12_bound_87 : decode cX12_bound 87 = .ok (.lstore 8, 2) := by decide +kernel
theorem dX12_bound_89 : decode cX12_bound 89 = .ok (.iconst 0, 1) := by decide +kernel
theorem dX12_bound_90 : decode cX12_bound 90 = .ok (.istore 10, 2) := by decide +kernel
theorem dX12_bound_92 : decode cX12_bound 92 = .ok (.iload 10, 2) := by decide +kernel
theorem dX12_bound_94 : decode cX12_bound 94 = .ok (.aload_n 0, 1) := by decide +kernel
theorem dX12_bound_95 : decode cX12_bound 95 = .ok (.getfield 23, 3) := by decide +kernel
theorem dX12_bound_98 : decode cX12_bound 98 = .ok (.iload_n 3, 1) := by decide +kernel
theorem dX12_bound_99 : decode cX12_bound 99 = .ok (.iaload, 1) := by decide +kernel
theorem dX12_bound_100 : decode cX12_bound 100 = .ok (.if_icmp .ge 62, 3) := by decide +kernel
theorem dX12_bound_103 : decode cX12_bound 103 = .ok (.lload 8, 2) := by decide +kernel
theorem dX12_bound_105 : decode cX12_bound 105 = .ok (.aload_n 0, 1) := by decide +kernel
theorem dX12_bound_106 : decode cX12_bound 106 = .ok (.iload 4, 2) := by decide +kernel
theorem dX12_bound_108 : decode cX12_bound 108 = .ok (.iload_n 3, 1) := by decide +kernel
theorem dX12_bound_109 : decode cX12_bound 109 = .ok (.iload 5, 2) := by decide +kernel
theorem dX12_bound_111 : decode cX12_bound 111 = .ok (.iload 10, 2) := by decide +kernel
theorem dX12_bound_113 : decode cX12_bound 113 = .ok (.invokevirtual 372, 3) := by decide +kernel
theorem dX12_bound_116 : decode cX12_bound 116 = .ok (.ifCond .eq 35, 3) := by decide +kernel
theorem dX12_bound_119 : decode cX12_bound 119 = .ok (.lload 6, 2) := by decide +kernel
theorem dX12_bound_121 : decode cX12_bound 121 = .ok (.aload_n 0, 1) := by decide +kernel
theorem dX12_bound_122 : decode cX12_bound 122 = .ok (.iload 4, 2) := by decide +kernel
theorem dX12_bound_124 : decode cX12_bound 124 = .ok (.iload_n 3, 1) := by decide +kernel
theorem dX12_bound_125 : decode cX12_bound 125 = .ok (.iload 5, 2) := by decide +kernel
theorem dX12_bound_127 : decode cX12_bound 127 = .ok (.iload 10, 2) := by decide +kernel
theorem dX12_bound_129 : decode cX12_bound 129 = .ok (.invokevirtual 380, 3) := by decide +kernel
theorem dX12_bound_132 : decode cX12_bound 132 = .ok (.i2l, 1) := by decide +kernel
theorem dX12_bound_133 : decode cX12_bound 133 = .ok (.ldiv, 1) := by decide +kernel
theorem dX12_bound_134 : decode cX12_bound 134 = .ok (.aload_n 0, 1) := by decide +kernel
theorem dX12_bound_135 : decode cX12_bound 135 = .ok (.getfield 26, 3) := by decide +kernel
theorem dX12_bound_138 : decode cX12_bound 138 = .ok (.bipush 6, 2) := by decide +kernel
theorem dX12_bound_140 : decode cX12_bound 140 = .ok (.iload_n 3, 1) := by decide +kernel
theorem dX12_bound_141 : decode cX12_bound 141 = .ok (.imul, 1) := by decide +kernel
theorem dX12_bound_142 : decode cX12_bound 142 = .ok (.iload 10, 2) := by decide +kernel
theorem dX12_bound_144 : decode cX12_bound 144 = .ok (.iadd, 1) := by decide +kernel
theorem dX12_bound_145 : decode cX12_bound 145 = .ok (.iaload, 1) := by decide +kernel
theorem dX12_bound_146 : decode cX12_bound 146 = .ok (.i2l, 1) := by decide +kernel
theorem dX12_bound_147 : decode cX12_bound 147 = .ok (.lmul, 1) := by decide +kernel
theorem dX12_bound_148 : decode cX12_bound 148 = .ok (.goto 5, 3) := by decide +kernel
theorem dX12_bound_151 : decode cX12_bound 151 = .ok (.lload 6, 2) := by decide +kernel
theorem dX12_bound_153 : decode cX12_bound 153 = .ok (.ladd, 1) := by decide +kernel
theorem dX12_bound_154 : decode cX12_bound 154 = .ok (.lstore 8, 2) := by decide +kernel
theorem dX12_bound_156 : decode cX12_bound 156 = .ok (.iinc 10 1, 3) := by decide +kernel
theorem dX12_bound_159 : decode cX12_bound 159 = .ok (.goto (-67), 3) := by decide +kernel
theorem dX12_bound_162 : decode cX12_bound 162 = .ok (.lload 8, 2) := by decide +kernel
theorem dX12_bound_164 : decode cX12_bound 164 = .ok (.lload 6, 2) := by decide +kernel
theorem dX12_bound_166 : decode cX12_bound 166 = .ok (.invokestatic 240, 3) := by decide +kernel
theorem dX12_bound_169 : decode cX12_bound 169 = .ok (.lload 6, 2) := by decide +kernel
theorem dX12_bound_171 : decode cX12_bound 171 = .ok (.iload_n 2, 1) := by decide +kernel
theorem dX12_bound_172 : decode cX12_bound 172 = .ok (.invokestatic 451, 3) := by decide +kernel
theorem dX12_bound_175 : decode cX12_bound 175 = .ok (.lreturn, 1) := by decide +kernel
theorem dX12_roots_0 : decode cX12_roots 0 = .ok (.aload_n 0, 1) := by decide +kernel
theorem dX12_roots_1 : decode cX12_roots 1 = .ok (.iconst 0, 1) := by decide +kernel
theorem dX12_roots_2 : decode cX12_roots 2 = .ok (.putfield 101, 3) := by decide +kernel
theorem dX12_roots_5 : decode cX12_roots 5 = .ok (.aload_n 0, 1) := by decide +kernel
theorem dX12_roots_6 : decode cX12_roots 6 = .ok (.iload_n 1, 1) := by decide +kernel
theorem dX12_roots_7 : decode cX12_roots 7 = .ok (.invokevirtual 414, 3) := by decide +kernel
theorem dX12_roots_10 : decode cX12_roots 10 = .ok (.ifCond .eq 53, 3) := by decide +kernel
theorem dX12_roots_13 : decode cX12_roots 13 = .ok (.iload_n 2, 1) := by decide +kernel
theorem dX12_roots_14 : decode cX12_roots 14 = .ok (.i2l, 1) := by decide +kernel
theorem dX12_roots_15 : decode cX12_roots 15 = .ok (.lconst 0, 1) := by decide +kernel
theorem dX12_roots_16 : decode cX12_roots 16 = .ok (.aload_n 0, 1) := by decide +kernel
theorem dX12_roots_17 : decode cX12_roots 17 = .ok (.getfield 23, 3) := by decide +kernel
theorem dX12_roots_20 : decode cX12_roots 20 = .ok (.aload_n 0, 1) := by decide +kernel
theorem dX12_roots_21 : decode cX12_roots 21 = .ok (.getfield 65, 3) := by decide +kernel
theorem dX12_roots_24 : decode cX12_roots 24 = .ok (.iload_n 1, 1) := by decide +kernel
theorem dX12_roots_25 : decode cX12_roots 25 = .ok (.iaload, 1) := by decide +kernel
theorem dX12_roots_26 : decode cX12_roots 26 = .ok (.iaload, 1) := by decide +kernel
theorem dX12_roots_27 : decode cX12_roots 27 = .ok (.iconst 1, 1) := by decide +kernel
theorem dX12_roots_28 : decode cX12_roots 28 = .ok (.isub, 1) := by decide +kernel
theorem dX12_roots_29 : decode cX12_roots 29 = .ok (.i2l, 1) := by decide +kernel
theorem dX12_roots_30 : decode cX12_roots 30 = .ok (.invokestatic 199, 3) := by decide +kernel
theorem dX12_roots_33 : decode cX12_roots 33 = .ok (.ifCond .eq 30, 3) := by decide +kernel
theorem dX12_roots_36 : decode cX12_roots 36 = .ok (.aload_n 0, 1) := by decide +kernel
theorem dX12_roots_37 : decode cX12_roots 37 = .ok (.aload_n 0, 1) := by decide +kernel
theorem dX12_roots_38 : decode cX12_roots 38 = .ok (.getfield 65, 3) := by decide +kernel
theorem dX12_roots_41 : decode cX12_roots 41 = .ok (.iload_n 1, 1) := by decide +kernel
theorem dX12_roots_42 : decode cX12_roots 42 = .ok (.iaload, 1) := by decide +kernel
theorem dX12_roots_43 : decode cX12_roots 43 = .ok (.aload_n 0, 1) := by decide +kernel
theorem dX12_roots_44 : decode cX12_roots 44 = .ok (.getfield 71, 3) := by decide +kernel
theorem dX12_roots_47 : decode cX12_roots 47 = .ok (.iload_n 1, 1) := by decide +kernel
theorem dX12_roots_48 : decode cX12_roots 48 = .ok (.iaload, 1) := by decide +kernel
theorem dX12_roots_49 : decode cX12_roots 49 = .ok (.aload_n 0, 1) := by decide +kernel
theorem dX12_roots_50 : decode cX12_roots 50 = .ok (.getfield 68, 3) := by decide +kernel
theorem dX12_roots_53 : decode cX12_roots 53 = .ok (.iload_n 1, 1) := by decide +kernel
theorem dX12_roots_54 : decode cX12_roots 54 = .ok (.iaload, 1) := by decide +kernel
theorem dX12_roots_55 : decode cX12_roots 55 = .ok (.invokevirtual 443, 3) := by decide +kernel
theorem dX12_roots_58 : decode cX12_roots 58 = .ok (.lconst 0, 1) := by decide +kernel
theorem dX12_roots_59 : decode cX12_roots 59 = .ok (.lcmp, 1) := by decide +kernel
theorem dX12_roots_60 : decode cX12_roots 60 = .ok (.ifCond .ne 5, 3) := by decide +kernel
theorem dX12_roots_63 : decode cX12_roots 63 = .ok (.iconst (-1), 1) := by decide +kernel
theorem dX12_roots_64 : decode cX12_roots 64 = .ok (.ireturn, 1) := by decide +kernel
theorem dX12_roots_65 : decode cX12_roots 65 = .ok (.aload_n 0, 1) := by decide +kernel
theorem dX12_roots_66 : decode cX12_roots 66 = .ok (.aload_n 0, 1) := by decide +kernel
theorem dX12_roots_67 : decode cX12_roots 67 = .ok (.getfield 65, 3) := by decide +kernel
theorem dX12_roots_70 : decode cX12_roots 70 = .ok (.iload_n 1, 1) := by decide +kernel
theorem dX12_roots_71 : decode cX12_roots 71 = .ok (.iaload, 1) := by decide +kernel
theorem dX12_roots_72 : decode cX12_roots 72 = .ok (.aload_n 0, 1) := by decide +kernel
theorem dX12_roots_73 : decode cX12_roots 73 = .ok (.getfield 71, 3) := by decide +kernel
theorem dX12_roots_76 : decode cX12_roots 76 = .ok (.iload_n 1, 1) := by decide +kernel
theorem dX12_roots_77 : decode cX12_roots 77 = .ok (.iaload, 1) := by decide +kernel
theorem dX12_roots_78 : decode cX12_roots 78 = .ok (.aload_n 0, 1) := by decide +kernel
theorem dX12_roots_79 : decode cX12_roots 79 = .ok (.getfield 68, 3) := by decide +kernel
theorem dX12_roots_82 : decode cX12_roots 82 = .ok (.iload_n 1, 1) := by decide +kernel
theorem dX12_roots_83 : decode cX12_roots 83 = .ok (.iaload, 1) := by decide +kernel
theorem dX12_roots_84 : decode cX12_roots 84 = .ok (.iload_n 2, 1) := by decide +kernel
theorem dX12_roots_85 : decode cX12_roots 85 = .ok (.invokevirtual 448, 3) := by decide +kernel
theorem dX12_roots_88 : decode cX12_roots 88 = .ok (.ireturn, 1) := by decide +kernel
theorem dX12_small_0 : decode cX12_small 0 = .ok (.aload_n 0, 1) := by decide +kernel
theorem dX12_small_1 : decode cX12_small 1 = .ok (.iconst 0, 1) := by decide +kernel
theorem dX12_small_2 : decode cX12_small 2 = .ok (.putfield 101, 3) := by decide +kernel
theorem dX12_small_5 : decode cX12_small 5 = .ok (.aload_n 0, 1) := by decide +kernel
theorem dX12_small_6 : decode cX12_small 6 = .ok (.iload_n 1, 1) := by decide +kernel
theorem dX12_small_7 : decode cX12_small 7 = .ok (.invokevirtual 194, 3) := by decide +kernel
theorem dX12_small_10 : decode cX12_small 10 = .ok (.ifCond .eq 31, 3) := by decide +kernel
theorem dX12_small_13 : decode cX12_small 13 = .ok (.iload_n 2, 1) := by decide +kernel
theorem dX12_small_14 : decode cX12_small 14 = .ok (.i2l, 1) := by decide +kernel
theorem dX12_small_15 : decode cX12_small 15 = .ok (.lconst 0, 1) := by decide +kernel
theorem dX12_small_16 : decode cX12_small 16 = .ok (.aload_n 0, 1) := by decide +kernel
theorem dX12_small_17 : decode cX12_small 17 = .ok (.getfield 309, 3) := by decide +kernel
theorem dX12_small_20 : decode cX12_small 20 = .ok (.iconst 1, 1) := by decide +kernel
theorem dX12_small_21 : decode cX12_small 21 = .ok (.isub, 1) := by decide +kernel
theorem dX12_small_22 : decode cX12_small 22 = .ok (.i2l, 1) := by decide +kernel
theorem dX12_small_23 : decode cX12_small 23 = .ok (.invokestatic 199, 3) := by decide +kernel
theorem dX12_small_26 : decode cX12_small 26 = .ok (.ifCond .eq 15, 3) := by decide +kernel
theorem dX12_small_29 : decode cX12_small 29 = .ok (.iload_n 3, 1) := by decide +kernel
theorem dX12_small_30 : decode cX12_small 30 = .ok (.i2l, 1) := by decide +kernel
theorem dX12_small_31 : decode cX12_small 31 = .ok (.lconst 1, 1) := by decide +kernel
theorem dX12_small_32 : decode cX12_small 32 = .ok (.ldc2_w 417, 3) := by decide +kernel
theorem dX12_small_35 : decode cX12_small 35 = .ok (.invokestatic 199, 3) := by decide +kernel
theorem dX12_small_38 : decode cX12_small 38 = .ok (.ifCond .ne 5, 3) := by decide +kernel
theorem dX12_small_41 : decode cX12_small 41 = .ok (.iconst (-1), 1) := by decide +kernel
theorem dX12_small_42 : decode cX12_small 42 = .ok (.ireturn, 1) := by decide +kernel
theorem dX12_small_43 : decode cX12_small 43 = .ok (.iconst 3, 1) := by decide +kernel
theorem dX12_small_44 : decode cX12_small 44 = .ok (.istore 4, 2) := by decide +kernel
theorem dX12_small_46 : decode cX12_small 46 = .ok (.iconst 0, 1) := by decide +kernel
theorem dX12_small_47 : decode cX12_small 47 = .ok (.istore 5, 2) := by decide +kernel
theorem dX12_small_49 : decode cX12_small 49 = .ok (.iload 5, 2) := by decide +kernel
theorem dX12_small_51 : decode cX12_small 51 = .ok (.aload_n 0, 1) := by decide +kernel
theorem dX12_small_52 : decode cX12_small 52 = .ok (.getfield 23, 3) := by decide +kernel
theorem dX12_small_55 : decode cX12_small 55 = .ok (.iload_n 1, 1) := by decide +kernel
theorem dX12_small_56 : decode cX12_small 56 = .ok (.iaload, 1) := by decide +kernel
theorem dX12_small_57 : decode cX12_small 57 = .ok (.if_icmp .ge 30, 3) := by decide +kernel
theorem dX12_small_60 : decode cX12_small 60 = .ok (.iload 4, 2) := by decide +kernel
theorem dX12_small_62 : decode cX12_small 62 = .ok (.aload_n 0, 1) := by decide +kernel
theorem dX12_small_63 : decode cX12_small 63 = .ok (.getfield 26, 3) := by decide +kernel
theorem dX12_small_66 : decode cX12_small 66 = .ok (.bipush 6, 2) := by decide +kernel
theorem dX12_small_68 : decode cX12_small 68 = .ok (.iload_n 1, 1) := by decide +kernel
theorem dX12_small_69 : decode cX12_small 69 = .ok (.imul, 1) := by decide +kernel
theorem dX12_small_70 : decode cX12_small 70 = .ok (.iload 5, 2) := by decide +kernel
theorem dX12_small_72 : decode cX12_small 72 = .ok (.iadd, 1) := by decide +kernel
theorem dX12_small_73 : decode cX12_small 73 = .ok (.iaload, 1) := by decide +kernel
theorem dX12_small_74 : decode cX12_small 74 = .ok (.iconst 1, 1) := by decide +kernel
theorem dX12_small_75 : decode cX12_small 75 = .ok (.iadd, 1) := by decide +kernel
theorem dX12_small_76 : decode cX12_small 76 = .ok (.invokestatic 145, 3) := by decide +kernel
theorem dX12_small_79 : decode cX12_small 79 = .ok (.istore 4, 2) := by decide +kernel
theorem dX12_small_81 : decode cX12_small 81 = .ok (.iinc 5 1, 3) := by decide +kernel
theorem dX12_small_84 : decode cX12_small 84 = .ok (.goto (-35), 3) := by decide +kernel
theorem dX12_small_87 : decode cX12_small 87 = .ok (.iload 4, 2) := by decide +kernel
theorem dX12_small_89 : decode cX12_small 89 = .ok (.istore 5, 2) := by decide +kernel
theorem dX12_small_91 : decode cX12_small 91 = .ok (.iload 5, 2) := by decide +kernel
theorem dX12_small_93 : decode cX12_small 93 = .ok (.sipush 1000, 3) := by decide +kernel
theorem dX12_small_96 : decode cX12_small 96 = .ok (.if_icmp .gt 61, 3) := by decide +kernel
theorem dX12_small_99 : decode cX12_small 99 = .ok (.iload 5, 2) := by decide +kernel
theorem dX12_small_101 : decode cX12_small 101 = .ok (.invokestatic 219, 3) := by decide +kernel
theorem dX12_small_104 : decode cX12_small 104 = .ok (.ifCond .ne 6, 3) := by decide +kernel
theorem dX12_small_107 : decode cX12_small 107 = .ok (.goto 44, 3) := by decide +kernel
theorem dX12_small_110 : decode cX12_small 110 = .ok (.aload_n 0, 1) := by decide +kernel
theorem dX12_small_111 : decode cX12_small 111 = .ok (.iload_n 1, 1) := by decide +kernel
theorem dX12_small_112 : decode cX12_small 112 = .ok (.iload_n 2, 1) := by decide +kernel
theorem dX12_small_113 : decode cX12_small 113 = .ok (.iload 5, 2) := by decide +kernel
theorem dX12_small_115 : decode cX12_small 115 = .ok (.iconst 0, 1) := by decide +kernel
theorem dX12_small_116 : decode cX12_small 116 = .ok (.invokevirtual 455, 3) := by decide +kernel
theorem dX12_small_119 : decode cX12_small 119 = .ok (.lstore 6, 2) := by decide +kernel
theorem dX12_small_121 : decode cX12_small 121 = .ok (.lload 6, 2) := by decide +kernel
theorem dX12_small_123 : decode cX12_small 123 = .ok (.ldc2_w 446, 3) := by decide +kernel
theorem dX12_small_126 : decode cX12_small 126 = .ok (.lcmp, 1) := by decide +kernel
theorem dX12_small_127 : decode cX12_small 127 = .ok (.ifCond .eq 24, 3) := by decide +kernel
theorem dX12_small_130 : decode cX12_small 130 = .ok (.lload 6, 2) := by decide +kernel
theorem dX12_small_132 : decode cX12_small 132 = .ok (.aload_n 0, 1) := by decide +kernel
theorem dX12_small_133 : decode cX12_small 133 = .ok (.iload_n 1, 1) := by decide +kernel
theorem dX12_small_134 : decode cX12_small 134 = .ok (.iload_n 2, 1) := by decide +kernel
theorem dX12_small_135 : decode cX12_small 135 = .ok (.iload 5, 2) := by decide +kernel
theorem dX12_small_137 : decode cX12_small 137 = .ok (.iconst 1, 1) := by decide +kernel
theorem dX12_small_138 : decode cX12_small 138 = .ok (.invokevirtual 455, 3) := by decide +kernel
theorem dX12_small_141 : decode cX12_small 141 = .ok (.iload_n 3, 1) := by decide +kernel
theorem dX12_small_142 : decode cX12_small 142 = .ok (.i2l, 1) := by decide +kernel
theorem dX12_small_143 : decode cX12_small 143 = .ok (.ldiv, 1) := by decide +kernel
theorem dX12_small_144 : decode cX12_small 144 = .ok (.lcmp, 1) := by decide +kernel
theorem dX12_small_145 : decode cX12_small 145 = .ok (.ifCond .gt 6, 3) := by decide +kernel
theorem dX12_small_148 : decode cX12_small 148 = .ok (.iload 5, 2) := by decide +kernel
theorem dX12_small_150 : decode cX12_small 150 = .ok (.ireturn, 1) := by decide +kernel
theorem dX12_small_151 : decode cX12_small 151 = .ok (.iinc 5 1, 3) := by decide +kernel
theorem dX12_small_154 : decode cX12_small 154 = .ok (.goto (-63), 3) := by decide +kernel
theorem dX12_small_157 : decode cX12_small 157 = .ok (.iconst (-1), 1) := by decide +kernel
theorem dX12_small_158 : decode cX12_small 158 = .ok (.ireturn, 1) := by decide +kernel
theorem dX12_isWon_0 : decode cX12_isWon 0 = .ok (.iload_n 3, 1) := by decide +kernel
theorem dX12_isWon_1 : decode cX12_isWon 1 = .ok (.aload_n 0, 1) := by decide +kernel
theorem dX12_isWon_2 : decode cX12_isWon 2 = .ok (.getfield 23, 3) := by decide +kernel
theorem dX12_isWon_5 : decode cX12_isWon 5 = .ok (.iload_n 1, 1) := by decide +kernel
theorem dX12_isWon_6 : decode cX12_isWon 6 = .ok (.iaload, 1) := by decide +kernel
theorem dX12_isWon_7 : decode cX12_isWon 7 = .ok (.if_icmp .ne 11, 3) := by decide +kernel
theorem dX12_isWon_10 : decode cX12_isWon 10 = .ok (.aload_n 0, 1) := by decide +kernel
theorem dX12_isWon_11 : decode cX12_isWon 11 = .ok (.iload_n 1, 1) := by decide +kernel
theorem dX12_isWon_12 : decode cX12_isWon 12 = .ok (.iload 4, 2) := by decide +kernel
theorem dX12_isWon_14 : decode cX12_isWon 14 = .ok (.invokevirtual 208, 3) := by decide +kernel
theorem dX12_isWon_17 : decode cX12_isWon 17 = .ok (.ireturn, 1) := by decide +kernel
theorem dX12_isWon_18 : decode cX12_isWon 18 = .ok (.aload_n 0, 1) := by decide +kernel
theorem dX12_isWon_19 : decode cX12_isWon 19 = .ok (.iload_n 1, 1) := by decide +kernel
theorem dX12_isWon_20 : decode cX12_isWon 20 = .ok (.iload_n 2, 1) := by decide +kernel
theorem dX12_isWon_21 : decode cX12_isWon 21 = .ok (.iload_n 3, 1) := by decide +kernel
theorem dX12_isWon_22 : decode cX12_isWon 22 = .ok (.iconst 1, 1) := by decide +kernel
theorem dX12_isWon_23 : decode cX12_isWon 23 = .ok (.iadd, 1) := by decide +kernel
theorem dX12_isWon_24 : decode cX12_isWon 24 = .ok (.iload 4, 2) := by decide +kernel
theorem dX12_isWon_26 : decode cX12_isWon 26 = .ok (.invokevirtual 459, 3) := by decide +kernel
theorem dX12_isWon_29 : decode cX12_isWon 29 = .ok (.istore 5, 2) := by decide +kernel
theorem dX12_isWon_31 : decode cX12_isWon 31 = .ok (.aload_n 0, 1) := by decide +kernel
theorem dX12_isWon_32 : decode cX12_isWon 32 = .ok (.iload_n 1, 1) := by decide +kernel
theorem dX12_isWon_33 : decode cX12_isWon 33 = .ok (.iload_n 2, 1) := by decide +kernel
theorem dX12_isWon_34 : decode cX12_isWon 34 = .ok (.iload_n 3, 1) := by decide +kernel
theorem dX12_isWon_35 : decode cX12_isWon 35 = .ok (.iconst 1, 1) := by decide +kernel
theorem dX12_isWon_36 : decode cX12_isWon 36 = .ok (.iadd, 1) := by decide +kernel
theorem dX12_isWon_37 : decode cX12_isWon 37 = .ok (.iload 4, 2) := by decide +kernel
theorem dX12_isWon_39 : decode cX12_isWon 39 = .ok (.iconst 1, 1) := by decide +kernel
theorem dX12_isWon_40 : decode cX12_isWon 40 = .ok (.iload_n 3, 1) := by decide +kernel
theorem dX12_isWon_41 : decode cX12_isWon 41 = .ok (.ishl, 1) := by decide +kernel
theorem dX12_isWon_42 : decode cX12_isWon 42 = .ok (.ior, 1) := by decide +kernel
theorem dX12_isWon_43 : decode cX12_isWon 43 = .ok (.invokevirtual 459, 3) := by decide +kernel
theorem dX12_isWon_46 : decode cX12_isWon 46 = .ok (.istore 6, 2) := by decide +kernel
theorem dX12_isWon_48 : decode cX12_isWon 48 = .ok (.iload_n 2, 1) := by decide +kernel
theorem dX12_isWon_49 : decode cX12_isWon 49 = .ok (.iload_n 3, 1) := by decide +kernel
theorem dX12_isWon_50 : decode cX12_isWon 50 = .ok (.ishr, 1) := by decide +kernel
theorem dX12_isWon_51 : decode cX12_isWon 51 = .ok (.iconst 1, 1) := by decide +kernel
theorem dX12_isWon_52 : decode cX12_isWon 52 = .ok (.iand, 1) := by decide +kernel
theorem dX12_isWon_53 : decode cX12_isWon 53 = .ok (.iconst 1, 1) := by decide +kernel
theorem dX12_isWon_54 : decode cX12_isWon 54 = .ok (.if_icmp .ne 21, 3) := by decide +kernel
theorem dX12_isWon_57 : decode cX12_isWon 57 = .ok (.iload 5, 2) := by decide +kernel
theorem dX12_isWon_59 : decode cX12_isWon 59 = .ok (.ifCond .eq 12, 3) := by decide +kernel
theorem dX12_isWon_62 : decode cX12_isWon 62 = .ok (.iload 6, 2) := by decide +kernel
theorem dX12_isWon_64 : decode cX12_isWon 64 = .ok (.ifCond .eq 7, 3) := by decide +kernel
theorem dX12_isWon_67 : decode cX12_isWon 67 = .ok (.iconst 1, 1) := by decide +kernel
theorem dX12_isWon_68 : decode cX12_isWon 68 = .ok (.goto 22, 3) := by decide +kernel
theorem dX12_isWon_71 : decode cX12_isWon 71 = .ok (.iconst 0, 1) := by decide +kernel
theorem dX12_isWon_72 : decode cX12_isWon 72 = .ok (.goto 18, 3) := by decide +kernel
theorem dX12_isWon_75 : decode cX12_isWon 75 = .ok (.iload 5, 2) := by decide +kernel
theorem dX12_isWon_77 : decode cX12_isWon 77 = .ok (.ifCond .ne 8, 3) := by decide +kernel
theorem dX12_isWon_80 : decode cX12_isWon 80 = .ok (.iload 6, 2) := by decide +kernel
theorem dX12_isWon_82 : decode cX12_isWon 82 = .ok (.ifCond .eq 7, 3) := by decide +kernel
theorem dX12_isWon_85 : decode cX12_isWon 85 = .ok (.iconst 1, 1) := by decide +kernel
theorem dX12_isWon_86 : decode cX12_isWon 86 = .ok (.goto 4, 3) := by decide +kernel
theorem dX12_isWon_89 : decode cX12_isWon 89 = .ok (.iconst 0, 1) := by decide +kernel
theorem dX12_isWon_90 : decode cX12_isWon 90 = .ok (.ireturn, 1) := by decide +kernel
theorem dX12_won_0 : decode cX12_won 0 = .ok (.aload_n 0, 1) := by decide +kernel
theorem dX12_won_1 : decode cX12_won 1 = .ok (.iconst 0, 1) := by decide +kernel
theorem dX12_won_2 : decode cX12_won 2 = .ok (.putfield 101, 3) := by decide +kernel
theorem dX12_won_5 : decode cX12_won 5 = .ok (.aload_n 0, 1) := by decide +kernel
theorem dX12_won_6 : decode cX12_won 6 = .ok (.iload_n 1, 1) := by decide +kernel
theorem dX12_won_7 : decode cX12_won 7 = .ok (.invokevirtual 194, 3) := by decide +kernel
theorem dX12_won_10 : decode cX12_won 10 = .ok (.ifCond .eq 15, 3) := by decide +kernel
theorem dX12_won_13 : decode cX12_won 13 = .ok (.iload_n 2, 1) := by decide +kernel
theorem dX12_won_14 : decode cX12_won 14 = .ok (.i2l, 1) := by decide +kernel
theorem dX12_won_15 : decode cX12_won 15 = .ok (.lconst 0, 1) := by decide +kernel
theorem dX12_won_16 : decode cX12_won 16 = .ok (.ldc2_w 206, 3) := by decide +kernel
theorem dX12_won_19 : decode cX12_won 19 = .ok (.invokestatic 199, 3) := by decide +kernel
theorem dX12_won_22 : decode cX12_won 22 = .ok (.ifCond .ne 7, 3) := by decide +kernel
theorem dX12_won_25 : decode cX12_won 25 = .ok (.iconst (-1), 1) := by decide +kernel
theorem dX12_won_26 : decode cX12_won 26 = .ok (.goto 19, 3) := by decide +kernel
theorem dX12_won_29 : decode cX12_won 29 = .ok (.aload_n 0, 1) := by decide +kernel
theorem dX12_won_30 : decode cX12_won 30 = .ok (.iload_n 1, 1) := by decide +kernel
theorem dX12_won_31 : decode cX12_won 31 = .ok (.iload_n 2, 1) := by decide +kernel
theorem dX12_won_32 : decode cX12_won 32 = .ok (.iconst 0, 1) := by decide +kernel
theorem dX12_won_33 : decode cX12_won 33 = .ok (.iconst 0, 1) := by decide +kernel
theorem dX12_won_34 : decode cX12_won 34 = .ok (.invokevirtual 459, 3) := by decide +kernel
theorem dX12_won_37 : decode cX12_won 37 = .ok (.ifCond .eq 7, 3) := by decide +kernel
theorem dX12_won_40 : decode cX12_won 40 = .ok (.iconst 1, 1) := by decide +kernel
theorem dX12_won_41 : decode cX12_won 41 = .ok (.goto 4, 3) := by decide +kernel
theorem dX12_won_44 : decode cX12_won 44 = .ok (.iconst 0, 1) := by decide +kernel
theorem dX12_won_45 : decode cX12_won 45 = .ok (.ireturn, 1) := by decide +kernel
theorem dX12_folded_0 : decode cX12_folded 0 = .ok (.iload_n 3, 1) := by decide +kernel
theorem dX12_folded_1 : decode cX12_folded 1 = .ok (.aload_n 0, 1) := by decide +kernel
theorem dX12_folded_2 : decode cX12_folded 2 = .ok (.getfield 23, 3) := by decide +kernel
theorem dX12_folded_5 : decode cX12_folded 5 = .ok (.iload_n 1, 1) := by decide +kernel
theorem dX12_folded_6 : decode cX12_folded 6 = .ok (.iaload, 1) := by decide +kernel
theorem dX12_folded_7 : decode cX12_folded 7 = .ok (.if_icmp .lt 11, 3) := by decide +kernel
theorem dX12_folded_10 : decode cX12_folded 10 = .ok (.aload_n 0, 1) := by decide +kernel
theorem dX12_folded_11 : decode cX12_folded 11 = .ok (.iload_n 1, 1) := by decide +kernel
theorem dX12_folded_12 : decode cX12_folded 12 = .ok (.lload 4, 2) := by decide +kernel
theorem dX12_folded_14 : decode cX12_folded 14 = .ok (.invokevirtual 184, 3) := by decide +kernel
theorem dX12_folded_17 : decode cX12_folded 17 = .ok (.lreturn, 1) := by decide +kernel
theorem dX12_folded_18 : decode cX12_folded 18 = .ok (.aload_n 0, 1) := by decide +kernel
theorem dX12_folded_19 : decode cX12_folded 19 = .ok (.getfield 36, 3) := by decide +kernel
theorem dX12_folded_22 : decode cX12_folded 22 = .ok (.iload_n 3, 1) := by decide +kernel
theorem dX12_folded_23 : decode cX12_folded 23 = .ok (.lconst 0, 1) := by decide +kernel
theorem dX12_folded_24 : decode cX12_folded 24 = .ok (.lastore, 1) := by decide +kernel
theorem dX12_folded_25 : decode cX12_folded 25 = .ok (.aload_n 0, 1) := by decide +kernel
theorem dX12_folded_26 : decode cX12_folded 26 = .ok (.iload_n 1, 1) := by decide +kernel
theorem dX12_folded_27 : decode cX12_folded 27 = .ok (.iload_n 2, 1) := by decide +kernel
theorem dX12_folded_28 : decode cX12_folded 28 = .ok (.iload_n 3, 1) := by decide +kernel
theorem dX12_folded_29 : decode cX12_folded 29 = .ok (.iconst 1, 1) := by decide +kernel
theorem dX12_folded_30 : decode cX12_folded 30 = .ok (.iadd, 1) := by decide +kernel
theorem dX12_folded_31 : decode cX12_folded 31 = .ok (.lload 4, 2) := by decide +kernel
theorem dX12_folded_33 : decode cX12_folded 33 = .ok (.invokevirtual 462, 3) := by decide +kernel
theorem dX12_folded_36 : decode cX12_folded 36 = .ok (.lstore 6, 2) := by decide +kernel
theorem dX12_folded_38 : decode cX12_folded 38 = .ok (.aload_n 0, 1) := by decide +kernel
theorem dX12_folded_39 : decode cX12_folded 39 = .ok (.getfield 36, 3) := by decide +kernel
theorem dX12_folded_42 : decode cX12_folded 42 = .ok (.iload_n 3, 1) := by decide +kernel
theorem dX12_folded_43 : decode cX12_folded 43 = .ok (.lconst 1, 1) := by decide +kernel
theorem dX12_folded_44 : decode cX12_folded 44 = .ok (.lastore, 1) := by decide +kernel
theorem dX12_folded_45 : decode cX12_folded 45 = .ok (.aload_n 0, 1) := by decide +kernel
theorem dX12_folded_46 : decode cX12_folded 46 = .ok (.iload_n 1, 1) := by decide +kernel
theorem dX12_folded_47 : decode cX12_folded 47 = .ok (.iload_n 2, 1) := by decide +kernel
theorem dX12_folded_48 : decode cX12_folded 48 = .ok (.iload_n 3, 1) := by decide +kernel
theorem dX12_folded_49 : decode cX12_folded 49 = .ok (.iconst 1, 1) := by decide +kernel
theorem dX12_folded_50 : decode cX12_folded 50 = .ok (.iadd, 1) := by decide +kernel
theorem dX12_folded_51 : decode cX12_folded 51 = .ok (.lload 4, 2) := by decide +kernel
theorem dX12_folded_53 : decode cX12_folded 53 = .ok (.invokevirtual 462, 3) := by decide +kernel
theorem dX12_folded_56 : decode cX12_folded 56 = .ok (.lstore 8, 2) := by decide +kernel
theorem dX12_folded_58 : decode cX12_folded 58 = .ok (.lload 6, 2) := by decide +kernel
theorem dX12_folded_60 : decode cX12_folded 60 = .ok (.lload 8, 2) := by decide +kernel
theorem dX12_folded_62 : decode cX12_folded 62 = .ok (.lmul, 1) := by decide +kernel
theorem dX12_folded_63 : decode cX12_folded 63 = .ok (.lload 4, 2) := by decide +kernel
theorem dX12_folded_65 : decode cX12_folded 65 = .ok (.lrem, 1) := by decide +kernel
theorem dX12_folded_66 : decode cX12_folded 66 = .ok (.lstore 10, 2) := by decide +kernel
theorem dX12_folded_68 : decode cX12_folded 68 = .ok (.iload_n 2, 1) := by decide +kernel
theorem dX12_folded_69 : decode cX12_folded 69 = .ok (.iload_n 3, 1) := by decide +kernel
theorem dX12_folded_70 : decode cX12_folded 70 = .ok (.ishr, 1) := by decide +kernel
theorem dX12_folded_71 : decode cX12_folded 71 = .ok (.iconst 1, 1) := by decide +kernel
theorem dX12_folded_72 : decode cX12_folded 72 = .ok (.iand, 1) := by decide +kernel
theorem dX12_folded_73 : decode cX12_folded 73 = .ok (.iconst 1, 1) := by decide +kernel
theorem dX12_folded_74 : decode cX12_folded 74 = .ok (.if_icmp .ne 8, 3) := by decide +kernel
theorem dX12_folded_77 : decode cX12_folded 77 = .ok (.lload 10, 2) := by decide +kernel
theorem dX12_folded_79 : decode cX12_folded 79 = .ok (.goto 16, 3) := by decide +kernel
theorem dX12_folded_82 : decode cX12_folded 82 = .ok (.lload 6, 2) := by decide +kernel
theorem dX12_folded_84 : decode cX12_folded 84 = .ok (.lload 8, 2) := by decide +kernel
theorem dX12_folded_86 : decode cX12_folded 86 = .ok (.ladd, 1) := by decide +kernel
theorem dX12_folded_87 : decode cX12_folded 87 = .ok (.lload 10, 2) := by decide +kernel
theorem dX12_folded_89 : decode cX12_folded 89 = .ok (.lsub, 1) := by decide +kernel
theorem dX12_folded_90 : decode cX12_folded 90 = .ok (.lload 4, 2) := by decide +kernel
theorem dX12_folded_92 : decode cX12_folded 92 = .ok (.invokestatic 180, 3) := by decide +kernel
theorem dX12_folded_95 : decode cX12_folded 95 = .ok (.lreturn, 1) := by decide +kernel
theorem dX12_game_0 : decode cX12_game 0 = .ok (.aload_n 0, 1) := by decide +kernel
theorem dX12_game_1 : decode cX12_game 1 = .ok (.iconst 0, 1) := by decide +kernel
theorem dX12_game_2 : decode cX12_game 2 = .ok (.putfield 101, 3) := by decide +kernel
theorem dX12_game_5 : decode cX12_game 5 = .ok (.aload_n 0, 1) := by decide +kernel
theorem dX12_game_6 : decode cX12_game 6 = .ok (.iload_n 1, 1) := by decide +kernel
theorem dX12_game_7 : decode cX12_game 7 = .ok (.invokevirtual 194, 3) := by decide +kernel
theorem dX12_game_10 : decode cX12_game 10 = .ok (.ifCond .eq 22, 3) := by decide +kernel
theorem dX12_game_13 : decode cX12_game 13 = .ok (.iload_n 2, 1) := by decide +kernel
theorem dX12_game_14 : decode cX12_game 14 = .ok (.i2l, 1) := by decide +kernel
theorem dX12_game_15 : decode cX12_game 15 = .ok (.lconst 0, 1) := by decide +kernel
theorem dX12_game_16 : decode cX12_game 16 = .ok (.ldc2_w 206, 3) := by decide +kernel
theorem dX12_game_19 : decode cX12_game 19 = .ok (.invokestatic 199, 3) := by decide +kernel
theorem dX12_game_22 : decode cX12_game 22 = .ok (.ifCond .eq 10, 3) := by decide +kernel
theorem dX12_game_25 : decode cX12_game 25 = .ok (.iload_n 3, 1) := by decide +kernel
theorem dX12_game_26 : decode cX12_game 26 = .ok (.invokestatic 222, 3) := by decide +kernel
theorem dX12_game_29 : decode cX12_game 29 = .ok (.ifCond .ne 5, 3) := by decide +kernel
theorem dX12_game_32 : decode cX12_game 32 = .ok (.iconst (-1), 1) := by decide +kernel
theorem dX12_game_33 : decode cX12_game 33 = .ok (.ireturn, 1) := by decide +kernel
theorem dX12_game_34 : decode cX12_game 34 = .ok (.aload_n 0, 1) := by decide +kernel
theorem dX12_game_35 : decode cX12_game 35 = .ok (.iload_n 3, 1) := by decide +kernel
theorem dX12_game_36 : decode cX12_game 36 = .ok (.invokevirtual 225, 3) := by decide +kernel
theorem dX12_game_39 : decode cX12_game 39 = .ok (.aload_n 0, 1) := by decide +kernel
theorem dX12_game_40 : decode cX12_game 40 = .ok (.iload_n 1, 1) := by decide +kernel
theorem dX12_game_41 : decode cX12_game 41 = .ok (.iload_n 2, 1) := by decide +kernel
theorem dX12_game_42 : decode cX12_game 42 = .ok (.aload_n 0, 1) := by decide +kernel
theorem dX12_game_43 : decode cX12_game 43 = .ok (.getfield 212, 3) := by decide +kernel
theorem dX12_game_46 : decode cX12_game 46 = .ok (.iload_n 3, 1) := by decide +kernel
theorem dX12_game_47 : decode cX12_game 47 = .ok (.i2l, 1) := by decide +kernel
theorem dX12_game_48 : decode cX12_game 48 = .ok (.invokevirtual 462, 3) := by decide +kernel
theorem dX12_game_51 : decode cX12_game 51 = .ok (.l2i, 1) := by decide +kernel
theorem dX12_game_52 : decode cX12_game 52 = .ok (.ireturn, 1) := by decide +kernel
theorem dX12_steep_0 : decode cX12_steep 0 = .ok (.aload_n 0, 1) := by decide +kernel
theorem dX12_steep_1 : decode cX12_steep 1 = .ok (.iconst 0, 1) := by decide +kernel
theorem dX12_steep_2 : decode cX12_steep 2 = .ok (.putfield 101, 3) := by decide +kernel
theorem dX12_steep_5 : decode cX12_steep 5 = .ok (.aload_n 0, 1) := by decide +kernel
theorem dX12_steep_6 : decode cX12_steep 6 = .ok (.iload_n 1, 1) := by decide +kernel
theorem dX12_steep_7 : decode cX12_steep 7 = .ok (.invokevirtual 194, 3) := by decide +kernel
theorem dX12_steep_10 : decode cX12_steep 10 = .ok (.ifCond .eq 37, 3) := by decide +kernel
theorem dX12_steep_13 : decode cX12_steep 13 = .ok (.iload_n 2, 1) := by decide +kernel
theorem dX12_steep_14 : decode cX12_steep 14 = .ok (.i2l, 1) := by decide +kernel
theorem dX12_steep_15 : decode cX12_steep 15 = .ok (.lconst 0, 1) := by decide +kernel
theorem dX12_steep_16 : decode cX12_steep 16 = .ok (.aload_n 0, 1) := by decide +kernel
theorem dX12_steep_17 : decode cX12_steep 17 = .ok (.getfield 23, 3) := by decide +kernel
theorem dX12_steep_20 : decode cX12_steep 20 = .ok (.iload_n 1, 1) := by decide +kernel
theorem dX12_steep_21 : decode cX12_steep 21 = .ok (.iaload, 1) := by decide +kernel
theorem dX12_steep_22 : decode cX12_steep 22 = .ok (.iconst 1, 1) := by decide +kernel
theorem dX12_steep_23 : decode cX12_steep 23 = .ok (.isub, 1) := by decide +kernel
theorem dX12_steep_24 : decode cX12_steep 24 = .ok (.i2l, 1) := by decide +kernel
theorem dX12_steep_25 : decode cX12_steep 25 = .ok (.invokestatic 199, 3) := by decide +kernel
theorem dX12_steep_28 : decode cX12_steep 28 = .ok (.ifCond .eq 19, 3) := by decide +kernel
theorem dX12_steep_31 : decode cX12_steep 31 = .ok (.iload_n 3, 1) := by decide +kernel
theorem dX12_steep_32 : decode cX12_steep 32 = .ok (.i2l, 1) := by decide +kernel
theorem dX12_steep_33 : decode cX12_steep 33 = .ok (.lconst 0, 1) := by decide +kernel
theorem dX12_steep_34 : decode cX12_steep 34 = .ok (.aload_n 0, 1) := by decide +kernel
theorem dX12_steep_35 : decode cX12_steep 35 = .ok (.getfield 23, 3) := by decide +kernel
theorem dX12_steep_38 : decode cX12_steep 38 = .ok (.iload_n 1, 1) := by decide +kernel
theorem dX12_steep_39 : decode cX12_steep 39 = .ok (.iaload, 1) := by decide +kernel
theorem dX12_steep_40 : decode cX12_steep 40 = .ok (.i2l, 1) := by decide +kernel
theorem dX12_steep_41 : decode cX12_steep 41 = .ok (.invokestatic 199, 3) := by decide +kernel
theorem dX12_steep_44 : decode cX12_steep 44 = .ok (.ifCond .ne 5, 3) := by decide +kernel
theorem dX12_steep_47 : decode cX12_steep 47 = .ok (.iconst (-1), 1) := by decide +kernel
theorem dX12_steep_48 : decode cX12_steep 48 = .ok (.ireturn, 1) := by decide +kernel
theorem dX12_steep_49 : decode cX12_steep 49 = .ok (.aload_n 0, 1) := by decide +kernel
theorem dX12_steep_50 : decode cX12_steep 50 = .ok (.getfield 26, 3) := by decide +kernel
theorem dX12_steep_53 : decode cX12_steep 53 = .ok (.bipush 6, 2) := by decide +kernel
theorem dX12_steep_55 : decode cX12_steep 55 = .ok (.iload_n 1, 1) := by decide +kernel
theorem dX12_steep_56 : decode cX12_steep 56 = .ok (.imul, 1) := by decide +kernel
theorem dX12_steep_57 : decode cX12_steep 57 = .ok (.iload_n 2, 1) := by decide +kernel
theorem dX12_steep_58 : decode cX12_steep 58 = .ok (.iadd, 1) := by decide +kernel
theorem dX12_steep_59 : decode cX12_steep 59 = .ok (.iaload, 1) := by decide +kernel
theorem dX12_steep_60 : decode cX12_steep 60 = .ok (.istore 5, 2) := by decide +kernel
theorem dX12_steep_62 : decode cX12_steep 62 = .ok (.iload_n 2, 1) := by decide +kernel
theorem dX12_steep_63 : decode cX12_steep 63 = .ok (.iconst 1, 1) := by decide +kernel
theorem dX12_steep_64 : decode cX12_steep 64 = .ok (.iadd, 1) := by decide +kernel
theorem dX12_steep_65 : decode cX12_steep 65 = .ok (.iload_n 3, 1) := by decide +kernel
theorem dX12_steep_66 : decode cX12_steep 66 = .ok (.invokestatic 145, 3) := by decide +kernel
theorem dX12_steep_69 : decode cX12_steep 69 = .ok (.istore 6, 2) := by decide +kernel
theorem dX12_steep_71 : decode cX12_steep 71 = .ok (.iload 6, 2) := by decide +kernel
theorem dX12_steep_73 : decode cX12_steep 73 = .ok (.aload_n 0, 1) := by decide +kernel
theorem dX12_steep_74 : decode cX12_steep 74 = .ok (.getfield 23, 3) := by decide +kernel
theorem dX12_steep_77 : decode cX12_steep 77 = .ok (.iload_n 1, 1) := by decide +kernel
theorem dX12_steep_78 : decode cX12_steep 78 = .ok (.iaload, 1) := by decide +kernel
theorem dX12_steep_79 : decode cX12_steep 79 = .ok (.if_icmp .ge 33, 3) := by decide +kernel
theorem dX12_steep_82 : decode cX12_steep 82 = .ok (.iload 4, 2) := by decide +kernel
theorem dX12_steep_84 : decode cX12_steep 84 = .ok (.ifCond .ne 10, 3) := by decide +kernel
theorem dX12_steep_87 : decode cX12_steep 87 = .ok (.iconst 2, 1) := by decide +kernel
theorem dX12_steep_88 : decode cX12_steep 88 = .ok (.iload 5, 2) := by decide +kernel
theorem dX12_steep_90 : decode cX12_steep 90 = .ok (.imul, 1) := by decide +kernel
theorem dX12_steep_91 : decode cX12_steep 91 = .ok (.goto 13, 3) := by decide +kernel
theorem dX12_steep_94 : decode cX12_steep 94 = .ok (.iload 5, 2) := by decide +kernel
theorem dX12_steep_96 : decode cX12_steep 96 = .ok (.ifCond .ne 7, 3) := by decide +kernel
theorem dX12_steep_99 : decode cX12_steep 99 = .ok (.iconst 0, 1) := by decide +kernel
theorem dX12_steep_100 : decode cX12_steep 100 = .ok (.goto 4, 3) := by decide +kernel
theorem dX12_steep_103 : decode cX12_steep 103 = .ok (.iconst 2, 1) := by decide +kernel
theorem dX12_steep_104 : decode cX12_steep 104 = .ok (.istore 5, 2) := by decide +kernel
theorem dX12_steep_106 : decode cX12_steep 106 = .ok (.iinc 6 1, 3) := by decide +kernel
theorem dX12_steep_109 : decode cX12_steep 109 = .ok (.goto (-38), 3) := by decide +kernel
theorem dX12_steep_112 : decode cX12_steep 112 = .ok (.iload 5, 2) := by decide +kernel
theorem dX12_steep_114 : decode cX12_steep 114 = .ok (.ireturn, 1) := by decide +kernel
theorem dX12_isNet_0 : decode cX12_isNet 0 = .ok (.iload_n 1, 1) := by decide +kernel
theorem dX12_isNet_1 : decode cX12_isNet 1 = .ok (.ifCond .lt 15, 3) := by decide +kernel
theorem dX12_isNet_4 : decode cX12_isNet 4 = .ok (.iload_n 1, 1) := by decide +kernel
theorem dX12_isNet_5 : decode cX12_isNet 5 = .ok (.aload_n 0, 1) := by decide +kernel
theorem dX12_isNet_6 : decode cX12_isNet 6 = .ok (.getfield 466, 3) := by decide +kernel
theorem dX12_isNet_9 : decode cX12_isNet 9 = .ok (.if_icmp .ge 7, 3) := by decide +kernel
theorem dX12_isNet_12 : decode cX12_isNet 12 = .ok (.iconst 1, 1) := by decide +kernel
theorem dX12_isNet_13 : decode cX12_isNet 13 = .ok (.goto 4, 3) := by decide +kernel
theorem dX12_isNet_16 : decode cX12_isNet 16 = .ok (.iconst 0, 1) := by decide +kernel
theorem dX12_isNet_17 : decode cX12_isNet 17 = .ok (.ireturn, 1) := by decide +kernel
theorem dX12_net_0 : decode cX12_net 0 = .ok (.aload_n 0, 1) := by decide +kernel
theorem dX12_net_1 : decode cX12_net 1 = .ok (.iconst 0, 1) := by decide +kernel
theorem dX12_net_2 : decode cX12_net 2 = .ok (.putfield 101, 3) := by decide +kernel
theorem dX12_net_5 : decode cX12_net 5 = .ok (.aload_n 0, 1) := by decide +kernel
theorem dX12_net_6 : decode cX12_net 6 = .ok (.getfield 466, 3) := by decide +kernel
theorem dX12_net_9 : decode cX12_net 9 = .ok (.bipush 12, 2) := by decide +kernel
theorem dX12_net_11 : decode cX12_net 11 = .ok (.if_icmp .eq 34, 3) := by decide +kernel
theorem dX12_net_14 : decode cX12_net 14 = .ok (.iload_n 1, 1) := by decide +kernel
theorem dX12_net_15 : decode cX12_net 15 = .ok (.i2l, 1) := by decide +kernel
theorem dX12_net_16 : decode cX12_net 16 = .ok (.ldc2_w 215, 3) := by decide +kernel
theorem dX12_net_19 : decode cX12_net 19 = .ok (.ldc2_w 469, 3) := by decide +kernel
theorem dX12_net_22 : decode cX12_net 22 = .ok (.invokestatic 199, 3) := by decide +kernel
theorem dX12_net_25 : decode cX12_net 25 = .ok (.ifCond .eq 20, 3) := by decide +kernel
theorem dX12_net_28 : decode cX12_net 28 = .ok (.iload_n 2, 1) := by decide +kernel
theorem dX12_net_29 : decode cX12_net 29 = .ok (.ifCond .lt 16, 3) := by decide +kernel
theorem dX12_net_32 : decode cX12_net 32 = .ok (.iload_n 2, 1) := by decide +kernel
theorem dX12_net_33 : decode cX12_net 33 = .ok (.iconst 1, 1) := by decide +kernel
theorem dX12_net_34 : decode cX12_net 34 = .ok (.iload_n 1, 1) := by decide +kernel
theorem dX12_net_35 : decode cX12_net 35 = .ok (.iload_n 1, 1) := by decide +kernel
theorem dX12_net_36 : decode cX12_net 36 = .ok (.iconst 1, 1) := by decide +kernel
theorem dX12_net_37 : decode cX12_net 37 = .ok (.isub, 1) := by decide +kernel
theorem dX12_net_38 : decode cX12_net 38 = .ok (.imul, 1) := by decide +kernel
theorem dX12_net_39 : decode cX12_net 39 = .ok (.iconst 2, 1) := by decide +kernel
theorem dX12_net_40 : decode cX12_net 40 = .ok (.idiv, 1) := by decide +kernel
theorem dX12_net_41 : decode cX12_net 41 = .ok (.ishl, 1) := by decide +kernel
theorem dX12_net_42 : decode cX12_net 42 = .ok (.if_icmp .lt 5, 3) := by decide +kernel
theorem dX12_net_45 : decode cX12_net 45 = .ok (.iconst (-1), 1) := by decide +kernel
theorem dX12_net_46 : decode cX12_net 46 = .ok (.ireturn, 1) := by decide +kernel
theorem dX12_net_47 : decode cX12_net 47 = .ok (.aload_n 0, 1) := by decide +kernel
theorem dX12_net_48 : decode cX12_net 48 = .ok (.getfield 89, 3) := by decide +kernel
theorem dX12_net_51 : decode cX12_net 51 = .ok (.aload_n 0, 1) := by decide +kernel
theorem dX12_net_52 : decode cX12_net 52 = .ok (.getfield 466, 3) := by decide +kernel
theorem dX12_net_55 : decode cX12_net 55 = .ok (.iload_n 1, 1) := by decide +kernel
theorem dX12_net_56 : decode cX12_net 56 = .ok (.iastore, 1) := by decide +kernel
theorem dX12_net_57 : decode cX12_net 57 = .ok (.aload_n 0, 1) := by decide +kernel
theorem dX12_net_58 : decode cX12_net 58 = .ok (.getfield 92, 3) := by decide +kernel
theorem dX12_net_61 : decode cX12_net 61 = .ok (.aload_n 0, 1) := by decide +kernel
theorem dX12_net_62 : decode cX12_net 62 = .ok (.getfield 466, 3) := by decide +kernel
theorem dX12_net_65 : decode cX12_net 65 = .ok (.iload_n 2, 1) := by decide +kernel
theorem dX12_net_66 : decode cX12_net 66 = .ok (.iastore, 1) := by decide +kernel
theorem dX12_net_67 : decode cX12_net 67 = .ok (.aload_n 0, 1) := by decide +kernel
theorem dX12_net_68 : decode cX12_net 68 = .ok (.dup, 1) := by decide +kernel
theorem dX12_net_69 : decode cX12_net 69 = .ok (.getfield 466, 3) := by decide +kernel
theorem dX12_net_72 : decode cX12_net 72 = .ok (.iconst 1, 1) := by decide +kernel
theorem dX12_net_73 : decode cX12_net 73 = .ok (.iadd, 1) := by decide +kernel
theorem dX12_net_74 : decode cX12_net 74 = .ok (.putfield 466, 3) := by decide +kernel
theorem dX12_net_77 : decode cX12_net 77 = .ok (.aload_n 0, 1) := by decide +kernel
theorem dX12_net_78 : decode cX12_net 78 = .ok (.getfield 466, 3) := by decide +kernel
theorem dX12_net_81 : decode cX12_net 81 = .ok (.iconst 1, 1) := by decide +kernel
theorem dX12_net_82 : decode cX12_net 82 = .ok (.isub, 1) := by decide +kernel
theorem dX12_net_83 : decode cX12_net 83 = .ok (.ireturn, 1) := by decide +kernel
theorem dX12_hasEdge_0 : decode cX12_hasEdge 0 = .ok (.iload_n 2, 1) := by decide +kernel
theorem dX12_hasEdge_1 : decode cX12_hasEdge 1 = .ok (.iload_n 3, 1) := by decide +kernel
theorem dX12_hasEdge_2 : decode cX12_hasEdge 2 = .ok (.invokestatic 409, 3) := by decide +kernel
theorem dX12_hasEdge_5 : decode cX12_hasEdge 5 = .ok (.istore 4, 2) := by decide +kernel
theorem dX12_hasEdge_7 : decode cX12_hasEdge 7 = .ok (.iload_n 2, 1) := by decide +kernel
theorem dX12_hasEdge_8 : decode cX12_hasEdge 8 = .ok (.iload_n 3, 1) := by decide +kernel
theorem dX12_hasEdge_9 : decode cX12_hasEdge 9 = .ok (.invokestatic 145, 3) := by decide +kernel
theorem dX12_hasEdge_12 : decode cX12_hasEdge 12 = .ok (.istore 5, 2) := by decide +kernel
theorem dX12_hasEdge_14 : decode cX12_hasEdge 14 = .ok (.aload_n 0, 1) := by decide +kernel
theorem dX12_hasEdge_15 : decode cX12_hasEdge 15 = .ok (.getfield 92, 3) := by decide +kernel
theorem dX12_hasEdge_18 : decode cX12_hasEdge 18 = .ok (.iload_n 1, 1) := by decide +kernel
theorem dX12_hasEdge_19 : decode cX12_hasEdge 19 = .ok (.iaload, 1) := by decide +kernel
theorem dX12_hasEdge_20 : decode cX12_hasEdge 20 = .ok (.iload 5, 2) := by decide +kernel
theorem dX12_hasEdge_22 : decode cX12_hasEdge 22 = .ok (.iload 5, 2) := by decide +kernel
theorem dX12_hasEdge_24 : decode cX12_hasEdge 24 = .ok (.iconst 1, 1) := by decide +kernel
theorem dX12_hasEdge_25 : decode cX12_hasEdge 25 = .ok (.isub, 1) := by decide +kernel
theorem dX12_hasEdge_26 : decode cX12_hasEdge 26 = .ok (.imul, 1) := by decide +kernel
theorem dX12_hasEdge_27 : decode cX12_hasEdge 27 = .ok (.iconst 2, 1) := by decide +kernel
theorem dX12_hasEdge_28 : decode cX12_hasEdge 28 = .ok (.idiv, 1) := by decide +kernel
theorem dX12_hasEdge_29 : decode cX12_hasEdge 29 = .ok (.iload 4, 2) := by decide +kernel
theorem dX12_hasEdge_31 : decode cX12_hasEdge 31 = .ok (.iadd, 1) := by decide +kernel
theorem dX12_hasEdge_32 : decode cX12_hasEdge 32 = .ok (.ishr, 1) := by decide +kernel
theorem dX12_hasEdge_33 : decode cX12_hasEdge 33 = .ok (.iconst 1, 1) := by decide +kernel
theorem dX12_hasEdge_34 : decode cX12_hasEdge 34 = .ok (.iand, 1) := by decide +kernel
theorem dX12_hasEdge_35 : decode cX12_hasEdge 35 = .ok (.iconst 1, 1) := by decide +kernel
theorem dX12_hasEdge_36 : decode cX12_hasEdge 36 = .ok (.if_icmp .ne 7, 3) := by decide +kernel
theorem dX12_hasEdge_39 : decode cX12_hasEdge 39 = .ok (.iconst 1, 1) := by decide +kernel
theorem dX12_hasEdge_40 : decode cX12_hasEdge 40 = .ok (.goto 4, 3) := by decide +kernel
theorem dX12_hasEdge_43 : decode cX12_hasEdge 43 = .ok (.iconst 0, 1) := by decide +kernel
theorem dX12_hasEdge_44 : decode cX12_hasEdge 44 = .ok (.ireturn, 1) := by decide +kernel
theorem dX12_puts_0 : decode cX12_puts 0 = .ok (.iload_n 3, 1) := by decide +kernel
theorem dX12_puts_1 : decode cX12_puts 1 = .ok (.aload_n 0, 1) := by decide +kernel
theorem dX12_puts_2 : decode cX12_puts 2 = .ok (.getfield 89, 3) := by decide +kernel
theorem dX12_puts_5 : decode cX12_puts 5 = .ok (.iload_n 1, 1) := by decide +kernel
theorem dX12_puts_6 : decode cX12_puts 6 = .ok (.iaload, 1) := by decide +kernel
theorem dX12_puts_7 : decode cX12_puts 7 = .ok (.if_icmp .ne 5, 3) := by decide +kernel
theorem dX12_puts_10 : decode cX12_puts 10 = .ok (.iconst 1, 1) := by decide +kernel
theorem dX12_puts_11 : decode cX12_puts 11 = .ok (.ireturn, 1) := by decide +kernel
theorem dX12_puts_12 : decode cX12_puts 12 = .ok (.iconst 0, 1) := by decide +kernel
theorem dX12_puts_13 : decode cX12_puts 13 = .ok (.istore 5, 2) := by decide +kernel
theorem dX12_puts_15 : decode cX12_puts 15 = .ok (.iload 5, 2) := by decide +kernel
theorem dX12_puts_17 : decode cX12_puts 17 = .ok (.aload_n 0, 1) := by decide +kernel
theorem dX12_puts_18 : decode cX12_puts 18 = .ok (.getfield 89, 3) := by decide +kernel
theorem dX12_puts_21 : decode cX12_puts 21 = .ok (.iload_n 1, 1) := by decide +kernel
theorem dX12_puts_22 : decode cX12_puts 22 = .ok (.iaload, 1) := by decide +kernel
theorem dX12_puts_23 : decode cX12_puts 23 = .ok (.if_icmp .ge 112, 3) := by decide +kernel
theorem dX12_puts_26 : decode cX12_puts 26 = .ok (.iload 4, 2) := by decide +kernel
theorem dX12_puts_28 : decode cX12_puts 28 = .ok (.iload 5, 2) := by decide +kernel
theorem dX12_puts_30 : decode cX12_puts 30 = .ok (.ishr, 1) := by decide +kernel
theorem dX12_puts_31 : decode cX12_puts 31 = .ok (.iconst 1, 1) := by decide +kernel
theorem dX12_puts_32 : decode cX12_puts 32 = .ok (.iand, 1) := by decide +kernel
theorem dX12_puts_33 : decode cX12_puts 33 = .ok (.ifCond .ne 7, 3) := by decide +kernel
theorem dX12_puts_36 : decode cX12_puts 36 = .ok (.iconst 1, 1) := by decide +kernel
theorem dX12_puts_37 : decode cX12_puts 37 = .ok (.goto 4, 3) := by decide +kernel
theorem dX12_puts_40 : decode cX12_puts 40 = .ok (.iconst 0, 1) := by decide +kernel
theorem dX12_puts_41 : decode cX12_puts 41 = .ok (.istore 6, 2) := by decide +kernel
theorem dX12_puts_43 : decode cX12_puts 43 = .ok (.iconst 0, 1) := by decide +kernel
theorem dX12_puts_44 : decode cX12_puts 44 = .ok (.istore 7, 2) := by decide +kernel
theorem dX12_puts_46 : decode cX12_puts 46 = .ok (.iload 7, 2) := by decide +kernel
theorem dX12_puts_48 : decode cX12_puts 48 = .ok (.iload_n 3, 1) := by decide +kernel
theorem dX12_puts_49 : decode cX12_puts 49 = .ok (.if_icmp .ge 46, 3) := by decide +kernel
theorem dX12_puts_52 : decode cX12_puts 52 = .ok (.iload 6, 2) := by decide +kernel
theorem dX12_puts_54 : decode cX12_puts 54 = .ok (.ifCond .eq 41, 3) := by decide +kernel
theorem dX12_puts_57 : decode cX12_puts 57 = .ok (.aload_n 0, 1) := by decide +kernel
theorem dX12_puts_58 : decode cX12_puts 58 = .ok (.iload_n 1, 1) := by decide +kernel
theorem dX12_puts_59 : decode cX12_puts 59 = .ok (.iload 7, 2) := by decide +kernel
theorem dX12_puts_61 : decode cX12_puts 61 = .ok (.iload_n 3, 1) := by decide +kernel
theorem dX12_puts_62 : decode cX12_puts 62 = .ok (.invokevirtual 471, 3) := by decide +kernel
theorem dX12_puts_65 : decode cX12_puts 65 = .ok (.aload_n 0, 1) := by decide +kernel
theorem dX12_puts_66 : decode cX12_puts 66 = .ok (.iload_n 2, 1) := by decide +kernel
theorem dX12_puts_67 : decode cX12_puts 67 = .ok (.aload_n 0, 1) := by decide +kernel
theorem dX12_puts_68 : decode cX12_puts 68 = .ok (.getfield 95, 3) := by decide +kernel
theorem dX12_puts_71 : decode cX12_puts 71 = .ok (.iload 7, 2) := by decide +kernel
theorem dX12_puts_73 : decode cX12_puts 73 = .ok (.iaload, 1) := by decide +kernel
theorem dX12_puts_74 : decode cX12_puts 74 = .ok (.iload 5, 2) := by decide +kernel
theorem dX12_puts_76 : decode cX12_puts 76 = .ok (.invokevirtual 471, 3) := by decide +kernel
theorem dX12_puts_79 : decode cX12_puts 79 = .ok (.if_icmp .ne 7, 3) := by decide +kernel
theorem dX12_puts_82 : decode cX12_puts 82 = .ok (.iconst 1, 1) := by decide +kernel
theorem dX12_puts_83 : decode cX12_puts 83 = .ok (.goto 4, 3) := by decide +kernel
theorem dX12_puts_86 : decode cX12_puts 86 = .ok (.iconst 0, 1) := by decide +kernel
theorem dX12_puts_87 : decode cX12_puts 87 = .ok (.istore 6, 2) := by decide +kernel
theorem dX12_puts_89 : decode cX12_puts 89 = .ok (.iinc 7 1, 3) := by decide +kernel
theorem dX12_puts_92 : decode cX12_puts 92 = .ok (.goto (-46), 3) := by decide +kernel
theorem dX12_puts_95 : decode cX12_puts 95 = .ok (.aload_n 0, 1) := by decide +kernel
theorem dX12_puts_96 : decode cX12_puts 96 = .ok (.getfield 95, 3) := by decide +kernel
theorem dX12_puts_99 : decode cX12_puts 99 = .ok (.iload_n 3, 1) := by decide +kernel
theorem dX12_puts_100 : decode cX12_puts 100 = .ok (.iload 5, 2) := by decide +kernel
theorem dX12_puts_102 : decode cX12_puts 102 = .ok (.iastore, 1) := by decide +kernel
theorem dX12_puts_103 : decode cX12_puts 103 = .ok (.iload 6, 2) := by decide +kernel
theorem dX12_puts_105 : decode cX12_puts 105 = .ok (.ifCond .eq 24, 3) := by decide +kernel
theorem dX12_puts_108 : decode cX12_puts 108 = .ok (.aload_n 0, 1) := by decide +kernel
theorem dX12_puts_109 : decode cX12_puts 109 = .ok (.iload_n 1, 1) := by decide +kernel
theorem dX12_puts_110 : decode cX12_puts 110 = .ok (.iload_n 2, 1) := by decide +kernel
theorem dX12_puts_111 : decode cX12_puts 111 = .ok (.iload_n 3, 1) := by decide +kernel
theorem dX12_puts_112 : decode cX12_puts 112 = .ok (.iconst 1, 1) := by decide +kernel
theorem dX12_puts_113 : decode cX12_puts 113 = .ok (.iadd, 1) := by decide +kernel
theorem dX12_puts_114 : decode cX12_puts 114 = .ok (.iload 4, 2) := by decide +kernel
theorem dX12_puts_116 : decode cX12_puts 116 = .ok (.iconst 1, 1) := by decide +kernel
theorem dX12_puts_117 : decode cX12_puts 117 = .ok (.iload 5, 2) := by decide +kernel
theorem dX12_puts_119 : decode cX12_puts 119 = .ok (.ishl, 1) := by decide +kernel
theorem dX12_puts_120 : decode cX12_puts 120 = .ok (.ior, 1) := by decide +kernel
theorem dX12_puts_121 : decode cX12_puts 121 = .ok (.invokevirtual 474, 3) := by decide +kernel
theorem dX12_puts_124 : decode cX12_puts 124 = .ok (.ifCond .eq 5, 3) := by decide +kernel
theorem dX12_puts_127 : decode cX12_puts 127 = .ok (.iconst 1, 1) := by decide +kernel
theorem dX12_puts_128 : decode cX12_puts 128 = .ok (.ireturn, 1) := by decide +kernel
theorem dX12_puts_129 : decode cX12_puts 129 = .ok (.iinc 5 1, 3) := by decide +kernel
theorem dX12_puts_132 : decode cX12_puts 132 = .ok (.goto (-117), 3) := by decide +kernel
theorem dX12_puts_135 : decode cX12_puts 135 = .ok (.iconst 0, 1) := by decide +kernel
theorem dX12_puts_136 : decode cX12_puts 136 = .ok (.ireturn, 1) := by decide +kernel
theorem dX12_areAlike_0 : decode cX12_areAlike 0 = .ok (.aload_n 0, 1) := by decide +kernel
theorem dX12_areAlike_1 : decode cX12_areAlike 1 = .ok (.getfield 89, 3) := by decide +kernel
theorem dX12_areAlike_4 : decode cX12_areAlike 4 = .ok (.iload_n 1, 1) := by decide +kernel
theorem dX12_areAlike_5 : decode cX12_areAlike 5 = .ok (.iaload, 1) := by decide +kernel
theorem dX12_areAlike_6 : decode cX12_areAlike 6 = .ok (.aload_n 0, 1) := by decide +kernel
theorem dX12_areAlike_7 : decode cX12_areAlike 7 = .ok (.getfield 89, 3) := by decide +kernel
theorem dX12_areAlike_10 : decode cX12_areAlike 10 = .ok (.iload_n 2, 1) := by decide +kernel
theorem dX12_areAlike_11 : decode cX12_areAlike 11 = .ok (.iaload, 1) := by decide +kernel
theorem dX12_areAlike_12 : decode cX12_areAlike 12 = .ok (.if_icmp .ne 18, 3) := by decide +kernel
theorem dX12_areAlike_15 : decode cX12_areAlike 15 = .ok (.aload_n 0, 1) := by decide +kernel
theorem dX12_areAlike_16 : decode cX12_areAlike 16 = .ok (.iload_n 1, 1) := by decide +kernel
theorem dX12_areAlike_17 : decode cX12_areAlike 17 = .ok (.iload_n 2, 1) := by decide +kernel
theorem dX12_areAlike_18 : decode cX12_areAlike 18 = .ok (.iconst 0, 1) := by decide +kernel
theorem dX12_areAlike_19 : decode cX12_areAlike 19 = .ok (.iconst 0, 1) := by decide +kernel
theorem dX12_areAlike_20 : decode cX12_areAlike 20 = .ok (.invokevirtual 474, 3) := by decide +kernel
theorem dX12_areAlike_23 : decode cX12_areAlike 23 = .ok (.ifCond .eq 7, 3) := by decide +kernel
theorem dX12_areAlike_26 : decode cX12_areAlike 26 = .ok (.iconst 1, 1) := by decide +kernel
theorem dX12_areAlike_27 : decode cX12_areAlike 27 = .ok (.goto 4, 3) := by decide +kernel
theorem dX12_areAlike_30 : decode cX12_areAlike 30 = .ok (.iconst 0, 1) := by decide +kernel
theorem dX12_areAlike_31 : decode cX12_areAlike 31 = .ok (.ireturn, 1) := by decide +kernel
theorem dX12_alike_0 : decode cX12_alike 0 = .ok (.aload_n 0, 1) := by decide +kernel
theorem dX12_alike_1 : decode cX12_alike 1 = .ok (.iconst 0, 1) := by decide +kernel
theorem dX12_alike_2 : decode cX12_alike 2 = .ok (.putfield 101, 3) := by decide +kernel
theorem dX12_alike_5 : decode cX12_alike 5 = .ok (.aload_n 0, 1) := by decide +kernel
theorem dX12_alike_6 : decode cX12_alike 6 = .ok (.iload_n 1, 1) := by decide +kernel
theorem dX12_alike_7 : decode cX12_alike 7 = .ok (.invokevirtual 477, 3) := by decide +kernel
theorem dX12_alike_10 : decode cX12_alike 10 = .ok (.ifCond .eq 11, 3) := by decide +kernel
theorem dX12_alike_13 : decode cX12_alike 13 = .ok (.aload_n 0, 1) := by decide +kernel
theorem dX12_alike_14 : decode cX12_alike 14 = .ok (.iload_n 2, 1) := by decide +kernel
theorem dX12_alike_15 : decode cX12_alike 15 = .ok (.invokevirtual 477, 3) := by decide +kernel
theorem dX12_alike_18 : decode cX12_alike 18 = .ok (.ifCond .ne 7, 3) := by decide +kernel
theorem dX12_alike_21 : decode cX12_alike 21 = .ok (.iconst (-1), 1) := by decide +kernel
theorem dX12_alike_22 : decode cX12_alike 22 = .ok (.goto 17, 3) := by decide +kernel
theorem dX12_alike_25 : decode cX12_alike 25 = .ok (.aload_n 0, 1) := by decide +kernel
theorem dX12_alike_26 : decode cX12_alike 26 = .ok (.iload_n 1, 1) := by decide +kernel
theorem dX12_alike_27 : decode cX12_alike 27 = .ok (.iload_n 2, 1) := by decide +kernel
theorem dX12_alike_28 : decode cX12_alike 28 = .ok (.invokevirtual 480, 3) := by decide +kernel
theorem dX12_alike_31 : decode cX12_alike 31 = .ok (.ifCond .eq 7, 3) := by decide +kernel
theorem dX12_alike_34 : decode cX12_alike 34 = .ok (.iconst 1, 1) := by decide +kernel
theorem dX12_alike_35 : decode cX12_alike 35 = .ok (.goto 4, 3) := by decide +kernel
theorem dX12_alike_38 : decode cX12_alike 38 = .ok (.iconst 0, 1) := by decide +kernel
theorem dX12_alike_39 : decode cX12_alike 39 = .ok (.ireturn, 1) := by decide +kernel
theorem dX12_shuffle_0 : decode cX12_shuffle 0 = .ok (.aload_n 0, 1) := by decide +kernel
theorem dX12_shuffle_1 : decode cX12_shuffle 1 = .ok (.iconst 0, 1) := by decide +kernel
theorem dX12_shuffle_2 : decode cX12_shuffle 2 = .ok (.putfield 101, 3) := by decide +kernel
theorem dX12_shuffle_5 : decode cX12_shuffle 5 = .ok (.aload_n 0, 1) := by decide +kernel
theorem dX12_shuffle_6 : decode cX12_shuffle 6 = .ok (.iload_n 1, 1) := by decide +kernel
theorem dX12_shuffle_7 : decode cX12_shuffle 7 = .ok (.invokevirtual 477, 3) := by decide +kernel
theorem dX12_shuffle_10 : decode cX12_shuffle 10 = .ok (.ifCond .eq 38, 3) := by decide +kernel
theorem dX12_shuffle_13 : decode cX12_shuffle 13 = .ok (.aload_n 0, 1) := by decide +kernel
theorem dX12_shuffle_14 : decode cX12_shuffle 14 = .ok (.iload_n 2, 1) := by decide +kernel
theorem dX12_shuffle_15 : decode cX12_shuffle 15 = .ok (.invokevirtual 477, 3) := by decide +kernel
theorem dX12_shuffle_18 : decode cX12_shuffle 18 = .ok (.ifCond .eq 30, 3) := by decide +kernel
theorem dX12_shuffle_21 : decode cX12_shuffle 21 = .ok (.iload_n 3, 1) := by decide +kernel
theorem dX12_shuffle_22 : decode cX12_shuffle 22 = .ok (.i2l, 1) := by decide +kernel
theorem dX12_shuffle_23 : decode cX12_shuffle 23 = .ok (.lconst 0, 1) := by decide +kernel
theorem dX12_shuffle_24 : decode cX12_shuffle 24 = .ok (.aload_n 0, 1) := by decide +kernel
theorem dX12_shuffle_25 : decode cX12_shuffle 25 = .ok (.getfield 89, 3) := by decide +kernel
theorem dX12_shuffle_28 : decode cX12_shuffle 28 = .ok (.iload_n 1, 1) := by decide +kernel
theorem dX12_shuffle_29 : decode cX12_shuffle 29 = .ok (.iaload, 1) := by decide +kernel
theorem dX12_shuffle_30 : decode cX12_shuffle 30 = .ok (.iconst 1, 1) := by decide +kernel
theorem dX12_shuffle_31 : decode cX12_shuffle 31 = .ok (.isub, 1) := by decide +kernel
theorem dX12_shuffle_32 : decode cX12_shuffle 32 = .ok (.i2l, 1) := by decide +kernel
theorem dX12_shuffle_33 : decode cX12_shuffle 33 = .ok (.invokestatic 199, 3) := by decide +kernel
theorem dX12_shuffle_36 : decode cX12_shuffle 36 = .ok (.ifCond .eq 12, 3) := by decide +kernel
theorem dX12_shuffle_39 : decode cX12_shuffle 39 = .ok (.aload_n 0, 1) := by decide +kernel
theorem dX12_shuffle_40 : decode cX12_shuffle 40 = .ok (.iload_n 1, 1) := by decide +kernel
theorem dX12_shuffle_41 : decode cX12_shuffle 41 = .ok (.iload_n 2, 1) := by decide +kernel
theorem dX12_shuffle_42 : decode cX12_shuffle 42 = .ok (.invokevirtual 480, 3) := by decide +kernel
theorem dX12_shuffle_45 : decode cX12_shuffle 45 = .ok (.ifCond .ne 5, 3) := by decide +kernel
theorem dX12_shuffle_48 : decode cX12_shuffle 48 = .ok (.iconst (-1), 1) := by decide +kernel
theorem dX12_shuffle_49 : decode cX12_shuffle 49 = .ok (.ireturn, 1) := by decide +kernel
theorem dX12_shuffle_50 : decode cX12_shuffle 50 = .ok (.aload_n 0, 1) := by decide +kernel
theorem dX12_shuffle_51 : decode cX12_shuffle 51 = .ok (.getfield 95, 3) := by decide +kernel
theorem dX12_shuffle_54 : decode cX12_shuffle 54 = .ok (.iload_n 3, 1) := by decide +kernel
theorem dX12_shuffle_55 : decode cX12_shuffle 55 = .ok (.iaload, 1) := by decide +kernel
theorem dX12_shuffle_56 : decode cX12_shuffle 56 = .ok (.ireturn, 1) := by decide +kernel
theorem dX12_unlike_0 : decode cX12_unlike 0 = .ok (.aload_n 0, 1) := by decide +kernel
theorem dX12_unlike_1 : decode cX12_unlike 1 = .ok (.iconst 0, 1) := by decide +kernel
theorem dX12_unlike_2 : decode cX12_unlike 2 = .ok (.putfield 101, 3) := by decide +kernel
theorem dX12_unlike_5 : decode cX12_unlike 5 = .ok (.aload_n 0, 1) := by decide +kernel
theorem dX12_unlike_6 : decode cX12_unlike 6 = .ok (.iload_n 1, 1) := by decide +kernel
theorem dX12_unlike_7 : decode cX12_unlike 7 = .ok (.invokevirtual 477, 3) := by decide +kernel
theorem dX12_unlike_10 : decode cX12_unlike 10 = .ok (.ifCond .eq 44, 3) := by decide +kernel
theorem dX12_unlike_13 : decode cX12_unlike 13 = .ok (.aload_n 0, 1) := by decide +kernel
theorem dX12_unlike_14 : decode cX12_unlike 14 = .ok (.iload_n 2, 1) := by decide +kernel
theorem dX12_unlike_15 : decode cX12_unlike 15 = .ok (.invokevirtual 477, 3) := by decide +kernel
theorem dX12_unlike_18 : decode cX12_unlike 18 = .ok (.ifCond .eq 36, 3) := by decide +kernel
theorem dX12_unlike_21 : decode cX12_unlike 21 = .ok (.iload_n 1, 1) := by decide +kernel
theorem dX12_unlike_22 : decode cX12_unlike 22 = .ok (.iload_n 2, 1) := by decide +kernel
theorem dX12_unlike_23 : decode cX12_unlike 23 = .ok (.if_icmp .eq 31, 3) := by decide +kernel
theorem dX12_unlike_26 : decode cX12_unlike 26 = .ok (.aload_n 0, 1) := by decide +kernel
theorem dX12_unlike_27 : decode cX12_unlike 27 = .ok (.getfield 89, 3) := by decide +kernel
theorem dX12_unlike_30 : decode cX12_unlike 30 = .ok (.iload_n 1, 1) := by decide +kernel
theorem dX12_unlike_31 : decode cX12_unlike 31 = .ok (.iaload, 1) := by decide +kernel
theorem dX12_unlike_32 : decode cX12_unlike 32 = .ok (.aload_n 0, 1) := by decide +kernel
theorem dX12_unlike_33 : decode cX12_unlike 33 = .ok (.getfield 89, 3) := by decide +kernel
theorem dX12_unlike_36 : decode cX12_unlike 36 = .ok (.iload_n 2, 1) := by decide +kernel
theorem dX12_unlike_37 : decode cX12_unlike 37 = .ok (.iaload, 1) := by decide +kernel
theorem dX12_unlike_38 : decode cX12_unlike 38 = .ok (.if_icmp .ne 16, 3) := by decide +kernel
theorem dX12_unlike_41 : decode cX12_unlike 41 = .ok (.iload 5, 2) := by decide +kernel
theorem dX12_unlike_43 : decode cX12_unlike 43 = .ok (.i2l, 1) := by decide +kernel
theorem dX12_unlike_44 : decode cX12_unlike 44 = .ok (.lconst 1, 1) := by decide +kernel
theorem dX12_unlike_45 : decode cX12_unlike 45 = .ok (.ldc2_w 483, 3) := by decide +kernel
theorem dX12_unlike_48 : decode cX12_unlike 48 = .ok (.invokestatic 199, 3) := by decide +kernel
theorem dX12_unlike_51 : decode cX12_unlike 51 = .ok (.ifCond .ne 5, 3) := by decide +kernel
theorem dX12_unlike_54 : decode cX12_unlike 54 = .ok (.iconst (-1), 1) := by decide +kernel
theorem dX12_unlike_55 : decode cX12_unlike 55 = .ok (.ireturn, 1) := by decide +kernel
theorem dX12_unlike_56 : decode cX12_unlike 56 = .ok (.aload_n 0, 1) := by decide +kernel
theorem dX12_unlike_57 : decode cX12_unlike 57 = .ok (.iload_n 1, 1) := by decide +kernel
theorem dX12_unlike_58 : decode cX12_unlike 58 = .ok (.iload_n 2, 1) := by decide +kernel
theorem dX12_unlike_59 : decode cX12_unlike 59 = .ok (.invokevirtual 480, 3) := by decide +kernel
theorem dX12_unlike_62 : decode cX12_unlike 62 = .ok (.istore 6, 2) := by decide +kernel
theorem dX12_unlike_64 : decode cX12_unlike 64 = .ok (.lload_n 3, 1) := by decide +kernel
theorem dX12_unlike_65 : decode cX12_unlike 65 = .ok (.lstore 7, 2) := by decide +kernel
theorem dX12_unlike_67 : decode cX12_unlike 67 = .ok (.iconst 0, 1) := by decide +kernel
theorem dX12_unlike_68 : decode cX12_unlike 68 = .ok (.istore 9, 2) := by decide +kernel
theorem dX12_unlike_70 : decode cX12_unlike 70 = .ok (.iconst 0, 1) := by decide +kernel
theorem dX12_unlike_71 : decode cX12_unlike 71 = .ok (.istore 10, 2) := by decide +kernel
theorem dX12_unlike_73 : decode cX12_unlike 73 = .ok (.iload 10, 2) := by decide +kernel
theorem dX12_unlike_75 : decode cX12_unlike 75 = .ok (.iload 5, 2) := by decide +kernel
theorem dX12_unlike_77 : decode cX12_unlike 77 = .ok (.if_icmp .ge 67, 3) := by decide +kernel
theorem dX12_unlike_80 : decode cX12_unlike 80 = .ok (.lload 7, 2) := by decide +kernel
theorem dX12_unlike_82 : decode cX12_unlike 82 = .ok (.ldc2_w 344, 3) := by decide +kernel
theorem dX12_unlike_85 : decode cX12_unlike 85 = .ok (.lmul, 1) := by decide +kernel
theorem dX12_unlike_86 : decode cX12_unlike 86 = .ok (.ldc2_w 346, 3) := by decide +kernel
theorem dX12_unlike_89 : decode cX12_unlike 89 = .ok (.ladd, 1) := by decide +kernel
theorem dX12_unlike_90 : decode cX12_unlike 90 = .ok (.lstore 7, 2) := by decide +kernel
theorem dX12_unlike_92 : decode cX12_unlike 92 = .ok (.lload 7, 2) := by decide +kernel
theorem dX12_unlike_94 : decode cX12_unlike 94 = .ok (.bipush 33, 2) := by decide +kernel
theorem dX12_unlike_96 : decode cX12_unlike 96 = .ok (.lushr, 1) := by decide +kernel
theorem dX12_unlike_97 : decode cX12_unlike 97 = .ok (.ldc2_w 215, 3) := by decide +kernel
theorem dX12_unlike_100 : decode cX12_unlike 100 = .ok (.lrem, 1) := by decide +kernel
theorem dX12_unlike_101 : decode cX12_unlike 101 = .ok (.lconst 0, 1) := by decide +kernel
theorem dX12_unlike_102 : decode cX12_unlike 102 = .ok (.lcmp, 1) := by decide +kernel
theorem dX12_unlike_103 : decode cX12_unlike 103 = .ok (.ifCond .ne 7, 3) := by decide +kernel
theorem dX12_unlike_106 : decode cX12_unlike 106 = .ok (.iload_n 1, 1) := by decide +kernel
theorem dX12_unlike_107 : decode cX12_unlike 107 = .ok (.goto 4, 3) := by decide +kernel
theorem dX12_unlike_110 : decode cX12_unlike 110 = .ok (.iload_n 2, 1) := by decide +kernel
theorem dX12_unlike_111 : decode cX12_unlike 111 = .ok (.istore 11, 2) := by decide +kernel
theorem dX12_unlike_113 : decode cX12_unlike 113 = .ok (.iload 9, 2) := by decide +kernel
theorem dX12_unlike_115 : decode cX12_unlike 115 = .ok (.iload 6, 2) := by decide +kernel
theorem dX12_unlike_117 : decode cX12_unlike 117 = .ok (.ifCond .eq 13, 3) := by decide +kernel
theorem dX12_unlike_120 : decode cX12_unlike 120 = .ok (.iload 11, 2) := by decide +kernel
theorem dX12_unlike_122 : decode cX12_unlike 122 = .ok (.iload_n 1, 1) := by decide +kernel
theorem dX12_unlike_123 : decode cX12_unlike 123 = .ok (.iload_n 2, 1) := by decide +kernel
theorem dX12_unlike_124 : decode cX12_unlike 124 = .ok (.invokestatic 409, 3) := by decide +kernel
theorem dX12_unlike_127 : decode cX12_unlike 127 = .ok (.if_icmp .ne 7, 3) := by decide +kernel
theorem dX12_unlike_130 : decode cX12_unlike 130 = .ok (.iconst 1, 1) := by decide +kernel
theorem dX12_unlike_131 : decode cX12_unlike 131 = .ok (.goto 4, 3) := by decide +kernel
theorem dX12_unlike_134 : decode cX12_unlike 134 = .ok (.iconst 0, 1) := by decide +kernel
theorem dX12_unlike_135 : decode cX12_unlike 135 = .ok (.iadd, 1) := by decide +kernel
theorem dX12_unlike_136 : decode cX12_unlike 136 = .ok (.istore 9, 2) := by decide +kernel
theorem dX12_unlike_138 : decode cX12_unlike 138 = .ok (.iinc 10 1, 3) := by decide +kernel
theorem dX12_unlike_141 : decode cX12_unlike 141 = .ok (.goto (-68), 3) := by decide +kernel
theorem dX12_unlike_144 : decode cX12_unlike 144 = .ok (.iload 9, 2) := by decide +kernel
theorem dX12_unlike_146 : decode cX12_unlike 146 = .ok (.ireturn, 1) := by decide +kernel
theorem dX12_agrees_0 : decode cX12_agrees 0 = .ok (.lload_n 0, 1) := by decide +kernel
theorem dX12_agrees_1 : decode cX12_agrees 1 = .ok (.iload_n 2, 1) := by decide +kernel
theorem dX12_agrees_2 : decode cX12_agrees 2 = .ok (.iconst 3, 1) := by decide +kernel
theorem dX12_agrees_3 : decode cX12_agrees 3 = .ok (.imul, 1) := by decide +kernel
theorem dX12_agrees_4 : decode cX12_agrees 4 = .ok (.iload_n 3, 1) := by decide +kernel
theorem dX12_agrees_5 : decode cX12_agrees 5 = .ok (.iadd, 1) := by decide +kernel
theorem dX12_agrees_6 : decode cX12_agrees 6 = .ok (.iconst 2, 1) := by decide +kernel
theorem dX12_agrees_7 : decode cX12_agrees 7 = .ok (.imul, 1) := by decide +kernel
theorem dX12_agrees_8 : decode cX12_agrees 8 = .ok (.iload 4, 2) := by decide +kernel
theorem dX12_agrees_10 : decode cX12_agrees 10 = .ok (.iadd, 1) := by decide +kernel
theorem dX12_agrees_11 : decode cX12_agrees 11 = .ok (.iconst 2, 1) := by decide +kernel
theorem dX12_agrees_12 : decode cX12_agrees 12 = .ok (.imul, 1) := by decide +kernel
theorem dX12_agrees_13 : decode cX12_agrees 13 = .ok (.iload 5, 2) := by decide +kernel
theorem dX12_agrees_15 : decode cX12_agrees 15 = .ok (.iadd, 1) := by decide +kernel
theorem dX12_agrees_16 : decode cX12_agrees 16 = .ok (.lshr, 1) := by decide +kernel
theorem dX12_agrees_17 : decode cX12_agrees 17 = .ok (.lconst 1, 1) := by decide +kernel
theorem dX12_agrees_18 : decode cX12_agrees 18 = .ok (.land, 1) := by decide +kernel
theorem dX12_agrees_19 : decode cX12_agrees 19 = .ok (.l2i, 1) := by decide +kernel
theorem dX12_agrees_20 : decode cX12_agrees 20 = .ok (.ireturn, 1) := by decide +kernel
theorem dX12_rooms_0 : decode cX12_rooms 0 = .ok (.aload_n 0, 1) := by decide +kernel
theorem dX12_rooms_1 : decode cX12_rooms 1 = .ok (.iconst 0, 1) := by decide +kernel
theorem dX12_rooms_2 : decode cX12_rooms 2 = .ok (.putfield 101, 3) := by decide +kernel
theorem dX12_rooms_5 : decode cX12_rooms 5 = .ok (.lload_n 1, 1) := by decide +kernel
theorem dX12_rooms_6 : decode cX12_rooms 6 = .ok (.lconst 0, 1) := by decide +kernel
theorem dX12_rooms_7 : decode cX12_rooms 7 = .ok (.ldc2_w 485, 3) := by decide +kernel
theorem dX12_rooms_10 : decode cX12_rooms 10 = .ok (.invokestatic 199, 3) := by decide +kernel
theorem dX12_rooms_13 : decode cX12_rooms 13 = .ok (.ifCond .eq 13, 3) := by decide +kernel
theorem dX12_rooms_16 : decode cX12_rooms 16 = .ok (.iload_n 3, 1) := by decide +kernel
theorem dX12_rooms_17 : decode cX12_rooms 17 = .ok (.i2l, 1) := by decide +kernel
theorem dX12_rooms_18 : decode cX12_rooms 18 = .ok (.lconst 0, 1) := by decide +kernel
theorem dX12_rooms_19 : decode cX12_rooms 19 = .ok (.lconst 1, 1) := by decide +kernel
theorem dX12_rooms_20 : decode cX12_rooms 20 = .ok (.invokestatic 199, 3) := by decide +kernel
theorem dX12_rooms_23 : decode cX12_rooms 23 = .ok (.ifCond .ne 5, 3) := by decide +kernel
theorem dX12_rooms_26 : decode cX12_rooms 26 = .ok (.iconst (-1), 1) := by decide +kernel
theorem dX12_rooms_27 : decode cX12_rooms 27 = .ok (.ireturn, 1) := by decide +kernel
theorem dX12_rooms_28 : decode cX12_rooms 28 = .ok (.iconst 0, 1) := by decide +kernel
theorem dX12_rooms_29 : decode cX12_rooms 29 = .ok (.istore 4, 2) := by decide +kernel
theorem dX12_rooms_31 : decode cX12_rooms 31 = .ok (.iconst 0, 1) := by decide +kernel
theorem dX12_rooms_32 : decode cX12_rooms 32 = .ok (.istore 5, 2) := by decide +kernel
theorem dX12_rooms_34 : decode cX12_rooms 34 = .ok (.iload 5, 2) := by decide +kernel
theorem dX12_rooms_36 : decode cX12_rooms 36 = .ok (.bipush 8, 2) := by decide +kernel
theorem dX12_rooms_38 : decode cX12_rooms 38 = .ok (.if_icmp .ge 137, 3) := by decide +kernel
theorem dX12_rooms_41 : decode cX12_rooms 41 = .ok (.iconst 0, 1) := by decide +kernel
theorem dX12_rooms_42 : decode cX12_rooms 42 = .ok (.istore 6, 2) := by decide +kernel
theorem dX12_rooms_44 : decode cX12_rooms 44 = .ok (.iload 6, 2) := by decide +kernel
theorem dX12_rooms_46 : decode cX12_rooms 46 = .ok (.iload_n 3, 1) := by decide +kernel
theorem dX12_rooms_47 : decode cX12_rooms 47 = .ok (.ifCond .ne 7, 3) := by decide +kernel
theorem dX12_rooms_50 : decode cX12_rooms 50 = .ok (.iconst 1, 1) := by decide +kernel
theorem dX12_rooms_51 : decode cX12_rooms 51 = .ok (.goto 5, 3) := by decide +kernel
theorem dX12_rooms_54 : decode cX12_rooms 54 = .ok (.bipush 8, 2) := by decide +kernel
theorem dX12_rooms_56 : decode cX12_rooms 56 = .ok (.if_icmp .ge 113, 3) := by decide +kernel
theorem dX12_rooms_59 : decode cX12_rooms 59 = .ok (.iconst 0, 1) := by decide +kernel
theorem dX12_rooms_60 : decode cX12_rooms 60 = .ok (.istore 7, 2) := by decide +kernel
theorem dX12_rooms_62 : decode cX12_rooms 62 = .ok (.iload 7, 2) := by decide +kernel
theorem dX12_rooms_64 : decode cX12_rooms 64 = .ok (.iload_n 3, 1) := by decide +kernel
theorem dX12_rooms_65 : decode cX12_rooms 65 = .ok (.ifCond .ne 8, 3) := by decide +kernel
theorem dX12_rooms_68 : decode cX12_rooms 68 = .ok (.bipush 8, 2) := by decide +kernel
theorem dX12_rooms_70 : decode cX12_rooms 70 = .ok (.goto 5, 3) := by decide +kernel
theorem dX12_rooms_73 : decode cX12_rooms 73 = .ok (.bipush 64, 2) := by decide +kernel
theorem dX12_rooms_75 : decode cX12_rooms 75 = .ok (.if_icmp .ge 88, 3) := by decide +kernel
theorem dX12_rooms_78 : decode cX12_rooms 78 = .ok (.iconst 0, 1) := by decide +kernel
theorem dX12_rooms_79 : decode cX12_rooms 79 = .ok (.istore 8, 2) := by decide +kernel
theorem dX12_rooms_81 : decode cX12_rooms 81 = .ok (.iconst 0, 1) := by decide +kernel
theorem dX12_rooms_82 : decode cX12_rooms 82 = .ok (.istore 9, 2) := by decide +kernel
theorem dX12_rooms_84 : decode cX12_rooms 84 = .ok (.iload 9, 2) := by decide +kernel
theorem dX12_rooms_86 : decode cX12_rooms 86 = .ok (.iconst 3, 1) := by decide +kernel
theorem dX12_rooms_87 : decode cX12_rooms 87 = .ok (.if_icmp .ge 61, 3) := by decide +kernel
theorem dX12_rooms_90 : decode cX12_rooms 90 = .ok (.iconst 0, 1) := by decide +kernel
theorem dX12_rooms_91 : decode cX12_rooms 91 = .ok (.istore 10, 2) := by decide +kernel
theorem dX12_rooms_93 : decode cX12_rooms 93 = .ok (.iload 10, 2) := by decide +kernel
theorem dX12_rooms_95 : decode cX12_rooms 95 = .ok (.iconst 3, 1) := by decide +kernel
theorem dX12_rooms_96 : decode cX12_rooms 96 = .ok (.if_icmp .ge 46, 3) := by decide +kernel
theorem dX12_rooms_99 : decode cX12_rooms 99 = .ok (.iload 8, 2) := by decide +kernel
theorem dX12_rooms_101 : decode cX12_rooms 101 = .ok (.lload_n 1, 1) := by decide +kernel
theorem dX12_rooms_102 : decode cX12_rooms 102 = .ok (.iload 9, 2) := by decide +kernel
theorem dX12_rooms_104 : decode cX12_rooms 104 = .ok (.iload 10, 2) := by decide +kernel
theorem dX12_rooms_106 : decode cX12_rooms 106 = .ok (.iload 5, 2) := by decide +kernel
theorem dX12_rooms_108 : decode cX12_rooms 108 = .ok (.iload 9, 2) := by decide +kernel
theorem dX12_rooms_110 : decode cX12_rooms 110 = .ok (.ishr, 1) := by decide +kernel
theorem dX12_rooms_111 : decode cX12_rooms 111 = .ok (.iconst 1, 1) := by decide +kernel
theorem dX12_rooms_112 : decode cX12_rooms 112 = .ok (.iand, 1) := by decide +kernel
theorem dX12_rooms_113 : decode cX12_rooms 113 = .ok (.iload 7, 2) := by decide +kernel
theorem dX12_rooms_115 : decode cX12_rooms 115 = .ok (.iconst 3, 1) := by decide +kernel
theorem dX12_rooms_116 : decode cX12_rooms 116 = .ok (.iload 6, 2) := by decide +kernel
theorem dX12_rooms_118 : decode cX12_rooms 118 = .ok (.iload 9, 2) := by decide +kernel
theorem dX12_rooms_120 : decode cX12_rooms 120 = .ok (.ishr, 1) := by decide +kernel
theorem dX12_rooms_121 : decode cX12_rooms 121 = .ok (.iconst 1, 1) := by decide +kernel
theorem dX12_rooms_122 : decode cX12_rooms 122 = .ok (.iand, 1) := by decide +kernel
theorem dX12_rooms_123 : decode cX12_rooms 123 = .ok (.imul, 1) := by decide +kernel
theorem dX12_rooms_124 : decode cX12_rooms 124 = .ok (.iload 10, 2) := by decide +kernel
theorem dX12_rooms_126 : decode cX12_rooms 126 = .ok (.iadd, 1) := by decide +kernel
theorem dX12_rooms_127 : decode cX12_rooms 127 = .ok (.ishr, 1) := by decide +kernel
theorem dX12_rooms_128 : decode cX12_rooms 128 = .ok (.iconst 1, 1) := by decide +kernel
theorem dX12_rooms_129 : decode cX12_rooms 129 = .ok (.iand, 1) := by decide +kernel
theorem dX12_rooms_130 : decode cX12_rooms 130 = .ok (.invokestatic 487, 3) := by decide +kernel
theorem dX12_rooms_133 : decode cX12_rooms 133 = .ok (.iadd, 1) := by decide +kernel
theorem dX12_rooms_134 : decode cX12_rooms 134 = .ok (.istore 8, 2) := by decide +kernel
theorem dX12_rooms_136 : decode cX12_rooms 136 = .ok (.iinc 10 1, 3) := by decide +kernel
theorem dX12_rooms_139 : decode cX12_rooms 139 = .ok (.goto (-46), 3) := by decide +kernel
theorem dX12_rooms_142 : decode cX12_rooms 142 = .ok (.iinc 9 1, 3) := by decide +kernel
theorem dX12_rooms_145 : decode cX12_rooms 145 = .ok (.goto (-61), 3) := by decide +kernel
theorem dX12_rooms_148 : decode cX12_rooms 148 = .ok (.iload 4, 2) := by decide +kernel
theorem dX12_rooms_150 : decode cX12_rooms 150 = .ok (.iload 8, 2) := by decide +kernel
theorem dX12_rooms_152 : decode cX12_rooms 152 = .ok (.invokestatic 145, 3) := by decide +kernel
theorem dX12_rooms_155 : decode cX12_rooms 155 = .ok (.istore 4, 2) := by decide +kernel
theorem dX12_rooms_157 : decode cX12_rooms 157 = .ok (.iinc 7 1, 3) := by decide +kernel
theorem dX12_rooms_160 : decode cX12_rooms 160 = .ok (.goto (-98), 3) := by decide +kernel
theorem dX12_rooms_163 : decode cX12_rooms 163 = .ok (.iinc 6 1, 3) := by decide +kernel
theorem dX12_rooms_166 : decode cX12_rooms 166 = .ok (.goto (-122), 3) := by decide +kernel
theorem dX12_rooms_169 : decode cX12_rooms 169 = .ok (.iinc 5 1, 3) := by decide +kernel
theorem dX12_rooms_172 : decode cX12_rooms 172 = .ok (.goto (-138), 3) := by decide +kernel
theorem dX12_rooms_175 : decode cX12_rooms 175 = .ok (.iload 4, 2) := by decide +kernel
theorem dX12_rooms_177 : decode cX12_rooms 177 = .ok (.ireturn, 1) := by decide +kernel
theorem dX12_cell_0 : decode cX12_cell 0 = .ok (.iload_n 0, 1) := by decide +kernel
theorem dX12_cell_1 : decode cX12_cell 1 = .ok (.iload_n 1, 1) := by decide +kernel
theorem dX12_cell_2 : decode cX12_cell 2 = .ok (.ishr, 1) := by decide +kernel
theorem dX12_cell_3 : decode cX12_cell 3 = .ok (.iconst 1, 1) := by decide +kernel
theorem dX12_cell_4 : decode cX12_cell 4 = .ok (.iand, 1) := by decide +kernel
theorem dX12_cell_5 : decode cX12_cell 5 = .ok (.ireturn, 1) := by decide +kernel
theorem dX12_caughtBy_0 : decode cX12_caughtBy 0 = .ok (.iconst 0, 1) := by decide +kernel
theorem dX12_caughtBy_1 : decode cX12_caughtBy 1 = .ok (.istore_n 2, 1) := by decide +kernel
theorem dX12_caughtBy_2 : decode cX12_caughtBy 2 = .ok (.iconst 0, 1) := by decide +kernel
theorem dX12_caughtBy_3 : decode cX12_caughtBy 3 = .ok (.istore_n 3, 1) := by decide +kernel
theorem dX12_caughtBy_4 : decode cX12_caughtBy 4 = .ok (.iload_n 3, 1) := by decide +kernel
theorem dX12_caughtBy_5 : decode cX12_caughtBy 5 = .ok (.iconst 1, 1) := by decide +kernel
theorem dX12_caughtBy_6 : decode cX12_caughtBy 6 = .ok (.iload_n 0, 1) := by decide +kernel
theorem dX12_caughtBy_7 : decode cX12_caughtBy 7 = .ok (.ishl, 1) := by decide +kernel
theorem dX12_caughtBy_8 : decode cX12_caughtBy 8 = .ok (.if_icmp .ge 57, 3) := by decide +kernel
theorem dX12_caughtBy_11 : decode cX12_caughtBy 11 = .ok (.iconst 0, 1) := by decide +kernel
theorem dX12_caughtBy_12 : decode cX12_caughtBy 12 = .ok (.istore 4, 2) := by decide +kernel
theorem dX12_caughtBy_14 : decode cX12_caughtBy 14 = .ok (.iload 4, 2) := by decide +kernel
theorem dX12_caughtBy_16 : decode cX12_caughtBy 16 = .ok (.iconst 1, 1) := by decide +kernel
theorem dX12_caughtBy_17 : decode cX12_caughtBy 17 = .ok (.iload_n 0, 1) := by decide +kernel
theorem dX12_caughtBy_18 : decode cX12_caughtBy 18 = .ok (.ishl, 1) := by decide +kernel
theorem dX12_caughtBy_19 : decode cX12_caughtBy 19 = .ok (.if_icmp .ge 40, 3) := by decide +kernel
theorem dX12_caughtBy_22 : decode cX12_caughtBy 22 = .ok (.iload_n 2, 1) := by decide +kernel
theorem dX12_caughtBy_23 : decode cX12_caughtBy 23 = .ok (.iload_n 1, 1) := by decide +kernel
theorem dX12_caughtBy_24 : decode cX12_caughtBy 24 = .ok (.iload_n 3, 1) := by decide +kernel
theorem dX12_caughtBy_25 : decode cX12_caughtBy 25 = .ok (.iload 4, 2) := by decide +kernel
theorem dX12_caughtBy_27 : decode cX12_caughtBy 27 = .ok (.ixor, 1) := by decide +kernel
theorem dX12_caughtBy_28 : decode cX12_caughtBy 28 = .ok (.invokestatic 491, 3) := by decide +kernel
theorem dX12_caughtBy_31 : decode cX12_caughtBy 31 = .ok (.iload_n 1, 1) := by decide +kernel
theorem dX12_caughtBy_32 : decode cX12_caughtBy 32 = .ok (.iload_n 3, 1) := by decide +kernel
theorem dX12_caughtBy_33 : decode cX12_caughtBy 33 = .ok (.invokestatic 491, 3) := by decide +kernel
theorem dX12_caughtBy_36 : decode cX12_caughtBy 36 = .ok (.iload_n 1, 1) := by decide +kernel
theorem dX12_caughtBy_37 : decode cX12_caughtBy 37 = .ok (.iload 4, 2) := by decide +kernel
theorem dX12_caughtBy_39 : decode cX12_caughtBy 39 = .ok (.invokestatic 491, 3) := by decide +kernel
theorem dX12_caughtBy_42 : decode cX12_caughtBy 42 = .ok (.ixor, 1) := by decide +kernel
theorem dX12_caughtBy_43 : decode cX12_caughtBy 43 = .ok (.if_icmp .eq 7, 3) := by decide +kernel
theorem dX12_caughtBy_46 : decode cX12_caughtBy 46 = .ok (.iconst 1, 1) := by decide +kernel
theorem dX12_caughtBy_47 : decode cX12_caughtBy 47 = .ok (.goto 4, 3) := by decide +kernel
theorem dX12_caughtBy_50 : decode cX12_caughtBy 50 = .ok (.iconst 0, 1) := by decide +kernel
theorem dX12_caughtBy_51 : decode cX12_caughtBy 51 = .ok (.iadd, 1) := by decide +kernel
theorem dX12_caughtBy_52 : decode cX12_caughtBy 52 = .ok (.istore_n 2, 1) := by decide +kernel
theorem dX12_caughtBy_53 : decode cX12_caughtBy 53 = .ok (.iinc 4 1, 3) := by decide +kernel
theorem dX12_caughtBy_56 : decode cX12_caughtBy 56 = .ok (.goto (-42), 3) := by decide +kernel
theorem dX12_caughtBy_59 : decode cX12_caughtBy 59 = .ok (.iinc 3 1, 3) := by decide +kernel
theorem dX12_caughtBy_62 : decode cX12_caughtBy 62 = .ok (.goto (-58), 3) := by decide +kernel
theorem dX12_caughtBy_65 : decode cX12_caughtBy 65 = .ok (.iload_n 2, 1) := by decide +kernel
theorem dX12_caughtBy_66 : decode cX12_caughtBy 66 = .ok (.ireturn, 1) := by decide +kernel
theorem dX12_isBook_0 : decode cX12_isBook 0 = .ok (.iload_n 0, 1) := by decide +kernel
theorem dX12_isBook_1 : decode cX12_isBook 1 = .ok (.i2l, 1) := by decide +kernel
theorem dX12_isBook_2 : decode cX12_isBook 2 = .ok (.lconst 1, 1) := by decide +kernel
theorem dX12_isBook_3 : decode cX12_isBook 3 = .ok (.ldc2_w 494, 3) := by decide +kernel
theorem dX12_isBook_6 : decode cX12_isBook 6 = .ok (.invokestatic 199, 3) := by decide +kernel
theorem dX12_isBook_9 : decode cX12_isBook 9 = .ok (.ifCond .eq 23, 3) := by decide +kernel
theorem dX12_isBook_12 : decode cX12_isBook 12 = .ok (.iload_n 1, 1) := by decide +kernel
theorem dX12_isBook_13 : decode cX12_isBook 13 = .ok (.i2l, 1) := by decide +kernel
theorem dX12_isBook_14 : decode cX12_isBook 14 = .ok (.lconst 0, 1) := by decide +kernel
theorem dX12_isBook_15 : decode cX12_isBook 15 = .ok (.lconst 1, 1) := by decide +kernel
theorem dX12_isBook_16 : decode cX12_isBook 16 = .ok (.iconst 1, 1) := by decide +kernel
theorem dX12_isBook_17 : decode cX12_isBook 17 = .ok (.iload_n 0, 1) := by decide +kernel
theorem dX12_isBook_18 : decode cX12_isBook 18 = .ok (.ishl, 1) := by decide +kernel
theorem dX12_isBook_19 : decode cX12_isBook 19 = .ok (.lshl, 1) := by decide +kernel
theorem dX12_isBook_20 : decode cX12_isBook 20 = .ok (.lconst 1, 1) := by decide +kernel
theorem dX12_isBook_21 : decode cX12_isBook 21 = .ok (.lsub, 1) := by decide +kernel
theorem dX12_isBook_22 : decode cX12_isBook 22 = .ok (.invokestatic 199, 3) := by decide +kernel
theorem dX12_isBook_25 : decode cX12_isBook 25 = .ok (.ifCond .eq 7, 3) := by decide +kernel
theorem dX12_isBook_28 : decode cX12_isBook 28 = .ok (.iconst 1, 1) := by decide +kernel
theorem dX12_isBook_29 : decode cX12_isBook 29 = .ok (.goto 4, 3) := by decide +kernel
theorem dX12_isBook_32 : decode cX12_isBook 32 = .ok (.iconst 0, 1) := by decide +kernel
theorem dX12_isBook_33 : decode cX12_isBook 33 = .ok (.ireturn, 1) := by decide +kernel
theorem dX12_book_0 : decode cX12_book 0 = .ok (.aload_n 0, 1) := by decide +kernel
theorem dX12_book_1 : decode cX12_book 1 = .ok (.iconst 0, 1) := by decide +kernel
theorem dX12_book_2 : decode cX12_book 2 = .ok (.putfield 101, 3) := by decide +kernel
theorem dX12_book_5 : decode cX12_book 5 = .ok (.iload_n 1, 1) := by decide +kernel
theorem dX12_book_6 : decode cX12_book 6 = .ok (.iload_n 2, 1) := by decide +kernel
theorem dX12_book_7 : decode cX12_book 7 = .ok (.invokestatic 496, 3) := by decide +kernel
theorem dX12_book_10 : decode cX12_book 10 = .ok (.ifCond .eq 15, 3) := by decide +kernel
theorem dX12_book_13 : decode cX12_book 13 = .ok (.iload_n 3, 1) := by decide +kernel
theorem dX12_book_14 : decode cX12_book 14 = .ok (.i2l, 1) := by decide +kernel
theorem dX12_book_15 : decode cX12_book 15 = .ok (.lconst 0, 1) := by decide +kernel
theorem dX12_book_16 : decode cX12_book 16 = .ok (.ldc2_w 217, 3) := by decide +kernel
theorem dX12_book_19 : decode cX12_book 19 = .ok (.invokestatic 199, 3) := by decide +kernel
theorem dX12_book_22 : decode cX12_book 22 = .ok (.ifCond .ne 5, 3) := by decide +kernel
theorem dX12_book_25 : decode cX12_book 25 = .ok (.iconst (-1), 1) := by decide +kernel
theorem dX12_book_26 : decode cX12_book 26 = .ok (.ireturn, 1) := by decide +kernel
theorem dX12_book_27 : decode cX12_book 27 = .ok (.iload_n 3, 1) := by decide +kernel
theorem dX12_book_28 : decode cX12_book 28 = .ok (.iconst 2, 1) := by decide +kernel
theorem dX12_book_29 : decode cX12_book 29 = .ok (.if_icmp .ge 30, 3) := by decide +kernel
theorem dX12_book_32 : decode cX12_book 32 = .ok (.iload_n 3, 1) := by decide +kernel
theorem dX12_book_33 : decode cX12_book 33 = .ok (.iconst 1, 1) := by decide +kernel
theorem dX12_book_34 : decode cX12_book 34 = .ok (.if_icmp .ne 11, 3) := by decide +kernel
theorem dX12_book_37 : decode cX12_book 37 = .ok (.iload_n 1, 1) := by decide +kernel
theorem dX12_book_38 : decode cX12_book 38 = .ok (.iload_n 2, 1) := by decide +kernel
theorem dX12_book_39 : decode cX12_book 39 = .ok (.invokestatic 499, 3) := by decide +kernel
theorem dX12_book_42 : decode cX12_book 42 = .ok (.goto 16, 3) := by decide +kernel
theorem dX12_book_45 : decode cX12_book 45 = .ok (.iload_n 1, 1) := by decide +kernel
theorem dX12_book_46 : decode cX12_book 46 = .ok (.iload_n 2, 1) := by decide +kernel
theorem dX12_book_47 : decode cX12_book 47 = .ok (.invokestatic 499, 3) := by decide +kernel
theorem dX12_book_50 : decode cX12_book 50 = .ok (.ifCond .ne 7, 3) := by decide +kernel
theorem dX12_book_53 : decode cX12_book 53 = .ok (.iconst 1, 1) := by decide +kernel
theorem dX12_book_54 : decode cX12_book 54 = .ok (.goto 4, 3) := by decide +kernel
theorem dX12_book_57 : decode cX12_book 57 = .ok (.iconst 0, 1) := by decide +kernel
theorem dX12_book_58 : decode cX12_book 58 = .ok (.ireturn, 1) := by decide +kernel
theorem dX12_book_59 : decode cX12_book 59 = .ok (.iconst (-1), 1) := by decide +kernel
theorem dX12_book_60 : decode cX12_book 60 = .ok (.istore 4, 2) := by decide +kernel
theorem dX12_book_62 : decode cX12_book 62 = .ok (.iconst (-1), 1) := by decide +kernel
theorem dX12_book_63 : decode cX12_book 63 = .ok (.istore 5, 2) := by decide +kernel
theorem dX12_book_65 : decode cX12_book 65 = .ok (.iconst 0, 1) := by decide +kernel
theorem dX12_book_66 : decode cX12_book 66 = .ok (.istore 6, 2) := by decide +kernel
theorem dX12_book_68 : decode cX12_book 68 = .ok (.iload 6, 2) := by decide +kernel
theorem dX12_book_70 : decode cX12_book 70 = .ok (.iconst 1, 1) := by decide +kernel
theorem dX12_book_71 : decode cX12_book 71 = .ok (.iload_n 1, 1) := by decide +kernel
theorem dX12_book_72 : decode cX12_book 72 = .ok (.ishl, 1) := by decide +kernel
theorem dX12_book_73 : decode cX12_book 73 = .ok (.if_icmp .ge 94, 3) := by decide +kernel
theorem dX12_book_76 : decode cX12_book 76 = .ok (.iconst 0, 1) := by decide +kernel
theorem dX12_book_77 : decode cX12_book 77 = .ok (.istore 7, 2) := by decide +kernel
theorem dX12_book_79 : decode cX12_book 79 = .ok (.iconst 0, 1) := by decide +kernel
theorem dX12_book_80 : decode cX12_book 80 = .ok (.istore 8, 2) := by decide +kernel
theorem dX12_book_82 : decode cX12_book 82 = .ok (.iload 8, 2) := by decide +kernel
theorem dX12_book_84 : decode cX12_book 84 = .ok (.iconst 1, 1) := by decide +kernel
theorem dX12_book_85 : decode cX12_book 85 = .ok (.iload_n 1, 1) := by decide +kernel
theorem dX12_book_86 : decode cX12_book 86 = .ok (.ishl, 1) := by decide +kernel
theorem dX12_book_87 : decode cX12_book 87 = .ok (.if_icmp .ge 27, 3) := by decide +kernel
theorem dX12_book_90 : decode cX12_book 90 = .ok (.iload 7, 2) := by decide +kernel
theorem dX12_book_92 : decode cX12_book 92 = .ok (.iload 8, 2) := by decide +kernel
theorem dX12_book_94 : decode cX12_book 94 = .ok (.iload 6, 2) := by decide +kernel
theorem dX12_book_96 : decode cX12_book 96 = .ok (.iand, 1) := by decide +kernel
theorem dX12_book_97 : decode cX12_book 97 = .ok (.invokestatic 502, 3) := by decide +kernel
theorem dX12_book_100 : decode cX12_book 100 = .ok (.iconst 1, 1) := by decide +kernel
theorem dX12_book_101 : decode cX12_book 101 = .ok (.iand, 1) := by decide +kernel
theorem dX12_book_102 : decode cX12_book 102 = .ok (.iload 8, 2) := by decide +kernel
theorem dX12_book_104 : decode cX12_book 104 = .ok (.ishl, 1) := by decide +kernel
theorem dX12_book_105 : decode cX12_book 105 = .ok (.ior, 1) := by decide +kernel
theorem dX12_book_106 : decode cX12_book 106 = .ok (.istore 7, 2) := by decide +kernel
theorem dX12_book_108 : decode cX12_book 108 = .ok (.iinc 8 1, 3) := by decide +kernel
theorem dX12_book_111 : decode cX12_book 111 = .ok (.goto (-29), 3) := by decide +kernel
theorem dX12_book_114 : decode cX12_book 114 = .ok (.iload 7, 2) := by decide +kernel
theorem dX12_book_116 : decode cX12_book 116 = .ok (.iload_n 2, 1) := by decide +kernel
theorem dX12_book_117 : decode cX12_book 117 = .ok (.ixor, 1) := by decide +kernel
theorem dX12_book_118 : decode cX12_book 118 = .ok (.invokestatic 502, 3) := by decide +kernel
theorem dX12_book_121 : decode cX12_book 121 = .ok (.istore 8, 2) := by decide +kernel
theorem dX12_book_123 : decode cX12_book 123 = .ok (.iload 4, 2) := by decide +kernel
theorem dX12_book_125 : decode cX12_book 125 = .ok (.iconst (-1), 1) := by decide +kernel
theorem dX12_book_126 : decode cX12_book 126 = .ok (.if_icmp .eq 27, 3) := by decide +kernel
theorem dX12_book_129 : decode cX12_book 129 = .ok (.iload 8, 2) := by decide +kernel
theorem dX12_book_131 : decode cX12_book 131 = .ok (.iload 5, 2) := by decide +kernel
theorem dX12_book_133 : decode cX12_book 133 = .ok (.if_icmp .gt 28, 3) := by decide +kernel
theorem dX12_book_136 : decode cX12_book 136 = .ok (.iload 8, 2) := by decide +kernel
theorem dX12_book_138 : decode cX12_book 138 = .ok (.iload 5, 2) := by decide +kernel
theorem dX12_book_140 : decode cX12_book 140 = .ok (.if_icmp .ne 13, 3) := by decide +kernel
theorem dX12_book_143 : decode cX12_book 143 = .ok (.iload 7, 2) := by decide +kernel
theorem dX12_book_145 : decode cX12_book 145 = .ok (.iload 4, 2) := by decide +kernel
theorem dX12_book_147 : decode cX12_book 147 = .ok (.if_icmp .lt 6, 3) := by decide +kernel
theorem dX12_book_150 : decode cX12_book 150 = .ok (.goto 11, 3) := by decide +kernel
theorem dX12_book_153 : decode cX12_book 153 = .ok (.iload 7, 2) := by decide +kernel
theorem dX12_book_155 : decode cX12_book 155 = .ok (.istore 4, 2) := by decide +kernel
theorem dX12_book_157 : decode cX12_book 157 = .ok (.iload 8, 2) := by decide +kernel
theorem dX12_book_159 : decode cX12_book 159 = .ok (.istore 5, 2) := by decide +kernel
theorem dX12_book_161 : decode cX12_book 161 = .ok (.iinc 6 1, 3) := by decide +kernel
theorem dX12_book_164 : decode cX12_book 164 = .ok (.goto (-96), 3) := by decide +kernel
theorem dX12_book_167 : decode cX12_book 167 = .ok (.iload_n 3, 1) := by decide +kernel
theorem dX12_book_168 : decode cX12_book 168 = .ok (.iconst 2, 1) := by decide +kernel
theorem dX12_book_169 : decode cX12_book 169 = .ok (.if_icmp .ne 8, 3) := by decide +kernel
theorem dX12_book_172 : decode cX12_book 172 = .ok (.iload 5, 2) := by decide +kernel
theorem dX12_book_174 : decode cX12_book 174 = .ok (.goto 5, 3) := by decide +kernel
theorem dX12_book_177 : decode cX12_book 177 = .ok (.iload 4, 2) := by decide +kernel
theorem dX12_book_179 : decode cX12_book 179 = .ok (.ireturn, 1) := by decide +kernel
theorem dX12_mended_0 : decode cX12_mended 0 = .ok (.aload_n 0, 1) := by decide +kernel
theorem dX12_mended_1 : decode cX12_mended 1 = .ok (.iconst 0, 1) := by decide +kernel
theorem dX12_mended_2 : decode cX12_mended 2 = .ok (.putfield 101, 3) := by decide +kernel
theorem dX12_mended_5 : decode cX12_mended 5 = .ok (.iload_n 1, 1) := by decide +kernel
theorem dX12_mended_6 : decode cX12_mended 6 = .ok (.iload_n 2, 1) := by decide +kernel
theorem dX12_mended_7 : decode cX12_mended 7 = .ok (.invokestatic 496, 3) := by decide +kernel
theorem dX12_mended_10 : decode cX12_mended 10 = .ok (.ifCond .eq 18, 3) := by decide +kernel
theorem dX12_mended_13 : decode cX12_mended 13 = .ok (.iload_n 3, 1) := by decide +kernel
theorem dX12_mended_14 : decode cX12_mended 14 = .ok (.i2l, 1) := by decide +kernel
theorem dX12_mended_15 : decode cX12_mended 15 = .ok (.lconst 0, 1) := by decide +kernel
theorem dX12_mended_16 : decode cX12_mended 16 = .ok (.iconst 1, 1) := by decide +kernel
theorem dX12_mended_17 : decode cX12_mended 17 = .ok (.iload_n 1, 1) := by decide +kernel
theorem dX12_mended_18 : decode cX12_mended 18 = .ok (.ishl, 1) := by decide +kernel
theorem dX12_mended_19 : decode cX12_mended 19 = .ok (.iconst 1, 1) := by decide +kernel
theorem dX12_mended_20 : decode cX12_mended 20 = .ok (.isub, 1) := by decide +kernel
theorem dX12_mended_21 : decode cX12_mended 21 = .ok (.i2l, 1) := by decide +kernel
theorem dX12_mended_22 : decode cX12_mended 22 = .ok (.invokestatic 199, 3) := by decide +kernel
theorem dX12_mended_25 : decode cX12_mended 25 = .ok (.ifCond .ne 5, 3) := by decide +kernel
theorem dX12_mended_28 : decode cX12_mended 28 = .ok (.iconst (-1), 1) := by decide +kernel
theorem dX12_mended_29 : decode cX12_mended 29 = .ok (.ireturn, 1) := by decide +kernel
theorem dX12_mended_30 : decode cX12_mended 30 = .ok (.iconst 0, 1) := by decide +kernel
theorem dX12_mended_31 : decode cX12_mended 31 = .ok (.istore 4, 2) := by decide +kernel
theorem dX12_mended_33 : decode cX12_mended 33 = .ok (.iconst 0, 1) := by decide +kernel
theorem dX12_mended_34 : decode cX12_mended 34 = .ok (.istore 5, 2) := by decide +kernel
theorem dX12_mended_36 : decode cX12_mended 36 = .ok (.iload 5, 2) := by decide +kernel
theorem dX12_mended_38 : decode cX12_mended 38 = .ok (.iconst 1, 1) := by decide +kernel
theorem dX12_mended_39 : decode cX12_mended 39 = .ok (.iload_n 1, 1) := by decide +kernel
theorem dX12_mended_40 : decode cX12_mended 40 = .ok (.ishl, 1) := by decide +kernel
theorem dX12_mended_41 : decode cX12_mended 41 = .ok (.if_icmp .ge 29, 3) := by decide +kernel
theorem dX12_mended_44 : decode cX12_mended 44 = .ok (.iload 4, 2) := by decide +kernel
theorem dX12_mended_46 : decode cX12_mended 46 = .ok (.iload_n 2, 1) := by decide +kernel
theorem dX12_mended_47 : decode cX12_mended 47 = .ok (.iload_n 3, 1) := by decide +kernel
theorem dX12_mended_48 : decode cX12_mended 48 = .ok (.iload 5, 2) := by decide +kernel
theorem dX12_mended_50 : decode cX12_mended 50 = .ok (.ixor, 1) := by decide +kernel
theorem dX12_mended_51 : decode cX12_mended 51 = .ok (.invokestatic 491, 3) := by decide +kernel
theorem dX12_mended_54 : decode cX12_mended 54 = .ok (.iload_n 2, 1) := by decide +kernel
theorem dX12_mended_55 : decode cX12_mended 55 = .ok (.iload 5, 2) := by decide +kernel
theorem dX12_mended_57 : decode cX12_mended 57 = .ok (.invokestatic 491, 3) := by decide +kernel
theorem dX12_mended_60 : decode cX12_mended 60 = .ok (.ixor, 1) := by decide +kernel
theorem dX12_mended_61 : decode cX12_mended 61 = .ok (.iadd, 1) := by decide +kernel
theorem dX12_mended_62 : decode cX12_mended 62 = .ok (.istore 4, 2) := by decide +kernel
theorem dX12_mended_64 : decode cX12_mended 64 = .ok (.iinc 5 1, 3) := by decide +kernel
theorem dX12_mended_67 : decode cX12_mended 67 = .ok (.goto (-31), 3) := by decide +kernel
theorem dX12_mended_70 : decode cX12_mended 70 = .ok (.iconst 2, 1) := by decide +kernel
theorem dX12_mended_71 : decode cX12_mended 71 = .ok (.iload 4, 2) := by decide +kernel
theorem dX12_mended_73 : decode cX12_mended 73 = .ok (.imul, 1) := by decide +kernel
theorem dX12_mended_74 : decode cX12_mended 74 = .ok (.iconst 1, 1) := by decide +kernel
theorem dX12_mended_75 : decode cX12_mended 75 = .ok (.iload_n 1, 1) := by decide +kernel
theorem dX12_mended_76 : decode cX12_mended 76 = .ok (.ishl, 1) := by decide +kernel
theorem dX12_mended_77 : decode cX12_mended 77 = .ok (.if_icmp .le 7, 3) := by decide +kernel
theorem dX12_mended_80 : decode cX12_mended 80 = .ok (.iconst 1, 1) := by decide +kernel
theorem dX12_mended_81 : decode cX12_mended 81 = .ok (.goto 4, 3) := by decide +kernel
theorem dX12_mended_84 : decode cX12_mended 84 = .ok (.iconst 0, 1) := by decide +kernel
theorem dX12_mended_85 : decode cX12_mended 85 = .ok (.ireturn, 1) := by decide +kernel
theorem dX12_least_0 : decode cX12_least 0 = .ok (.aload_n 0, 1) := by decide +kernel
theorem dX12_least_1 : decode cX12_least 1 = .ok (.iconst 0, 1) := by decide +kernel
theorem dX12_least_2 : decode cX12_least 2 = .ok (.putfield 101, 3) := by decide +kernel
theorem dX12_least_5 : decode cX12_least 5 = .ok (.iload_n 1, 1) := by decide +kernel
theorem dX12_least_6 : decode cX12_least 6 = .ok (.i2l, 1) := by decide +kernel
theorem dX12_least_7 : decode cX12_least 7 = .ok (.lconst 1, 1) := by decide +kernel
theorem dX12_least_8 : decode cX12_least 8 = .ok (.ldc2_w 217, 3) := by decide +kernel
theorem dX12_least_11 : decode cX12_least 11 = .ok (.invokestatic 199, 3) := by decide +kernel
theorem dX12_least_14 : decode cX12_least 14 = .ok (.ifCond .eq 13, 3) := by decide +kernel
theorem dX12_least_17 : decode cX12_least 17 = .ok (.iload_n 2, 1) := by decide +kernel
theorem dX12_least_18 : decode cX12_least 18 = .ok (.i2l, 1) := by decide +kernel
theorem dX12_least_19 : decode cX12_least 19 = .ok (.lconst 0, 1) := by decide +kernel
theorem dX12_least_20 : decode cX12_least 20 = .ok (.lconst 1, 1) := by decide +kernel
theorem dX12_least_21 : decode cX12_least 21 = .ok (.invokestatic 199, 3) := by decide +kernel
theorem dX12_least_24 : decode cX12_least 24 = .ok (.ifCond .ne 5, 3) := by decide +kernel
theorem dX12_least_27 : decode cX12_least 27 = .ok (.iconst (-1), 1) := by decide +kernel
theorem dX12_least_28 : decode cX12_least 28 = .ok (.ireturn, 1) := by decide +kernel
theorem dX12_least_29 : decode cX12_least 29 = .ok (.iconst (-1), 1) := by decide +kernel
theorem dX12_least_30 : decode cX12_least 30 = .ok (.istore_n 3, 1) := by decide +kernel
theorem dX12_least_31 : decode cX12_least 31 = .ok (.iconst 0, 1) := by decide +kernel
theorem dX12_least_32 : decode cX12_least 32 = .ok (.istore 4, 2) := by decide +kernel
theorem dX12_least_34 : decode cX12_least 34 = .ok (.iload 4, 2) := by decide +kernel
theorem dX12_least_36 : decode cX12_least 36 = .ok (.iconst 1, 1) := by decide +kernel
theorem dX12_least_37 : decode cX12_least 37 = .ok (.iconst 1, 1) := by decide +kernel
theorem dX12_least_38 : decode cX12_least 38 = .ok (.iload_n 1, 1) := by decide +kernel
theorem dX12_least_39 : decode cX12_least 39 = .ok (.ishl, 1) := by decide +kernel
theorem dX12_least_40 : decode cX12_least 40 = .ok (.ishl, 1) := by decide +kernel
theorem dX12_least_41 : decode cX12_least 41 = .ok (.if_icmp .ge 40, 3) := by decide +kernel
theorem dX12_least_44 : decode cX12_least 44 = .ok (.iload_n 1, 1) := by decide +kernel
theorem dX12_least_45 : decode cX12_least 45 = .ok (.iload 4, 2) := by decide +kernel
theorem dX12_least_47 : decode cX12_least 47 = .ok (.invokestatic 499, 3) := by decide +kernel
theorem dX12_least_50 : decode cX12_least 50 = .ok (.istore 5, 2) := by decide +kernel
theorem dX12_least_52 : decode cX12_least 52 = .ok (.iload 5, 2) := by decide +kernel
theorem dX12_least_54 : decode cX12_least 54 = .ok (.ifCond .le 21, 3) := by decide +kernel
theorem dX12_least_57 : decode cX12_least 57 = .ok (.iload_n 3, 1) := by decide +kernel
theorem dX12_least_58 : decode cX12_least 58 = .ok (.iconst (-1), 1) := by decide +kernel
theorem dX12_least_59 : decode cX12_least 59 = .ok (.if_icmp .eq 13, 3) := by decide +kernel
theorem dX12_least_62 : decode cX12_least 62 = .ok (.iload 5, 2) := by decide +kernel
theorem dX12_least_64 : decode cX12_least 64 = .ok (.iload_n 1, 1) := by decide +kernel
theorem dX12_least_65 : decode cX12_least 65 = .ok (.iload_n 3, 1) := by decide +kernel
theorem dX12_least_66 : decode cX12_least 66 = .ok (.invokestatic 499, 3) := by decide +kernel
theorem dX12_least_69 : decode cX12_least 69 = .ok (.if_icmp .ge 6, 3) := by decide +kernel
theorem dX12_least_72 : decode cX12_least 72 = .ok (.iload 4, 2) := by decide +kernel
theorem dX12_least_74 : decode cX12_least 74 = .ok (.istore_n 3, 1) := by decide +kernel
theorem dX12_least_75 : decode cX12_least 75 = .ok (.iinc 4 1, 3) := by decide +kernel
theorem dX12_least_78 : decode cX12_least 78 = .ok (.goto (-44), 3) := by decide +kernel
theorem dX12_least_81 : decode cX12_least 81 = .ok (.iload_n 3, 1) := by decide +kernel
theorem dX12_least_82 : decode cX12_least 82 = .ok (.iconst (-1), 1) := by decide +kernel
theorem dX12_least_83 : decode cX12_least 83 = .ok (.if_icmp .ne 7, 3) := by decide +kernel
theorem dX12_least_86 : decode cX12_least 86 = .ok (.iconst (-1), 1) := by decide +kernel
theorem dX12_least_87 : decode cX12_least 87 = .ok (.goto 16, 3) := by decide +kernel
theorem dX12_least_90 : decode cX12_least 90 = .ok (.iload_n 2, 1) := by decide +kernel
theorem dX12_least_91 : decode cX12_least 91 = .ok (.ifCond .ne 11, 3) := by decide +kernel
theorem dX12_least_94 : decode cX12_least 94 = .ok (.iload_n 1, 1) := by decide +kernel
theorem dX12_least_95 : decode cX12_least 95 = .ok (.iload_n 3, 1) := by decide +kernel
theorem dX12_least_96 : decode cX12_least 96 = .ok (.invokestatic 499, 3) := by decide +kernel
theorem dX12_least_99 : decode cX12_least 99 = .ok (.goto 4, 3) := by decide +kernel
theorem dX12_least_102 : decode cX12_least 102 = .ok (.iload_n 3, 1) := by decide +kernel
theorem dX12_least_103 : decode cX12_least 103 = .ok (.ireturn, 1) := by decide +kernel
theorem dX12_count_0 : decode cX12_count 0 = .ok (.aload_n 0, 1) := by decide +kernel
theorem dX12_count_1 : decode cX12_count 1 = .ok (.iconst 0, 1) := by decide +kernel
theorem dX12_count_2 : decode cX12_count 2 = .ok (.putfield 101, 3) := by decide +kernel
theorem dX12_count_5 : decode cX12_count 5 = .ok (.iload_n 1, 1) := by decide +kernel
theorem dX12_count_6 : decode cX12_count 6 = .ok (.tableswitch 77 0 6 #[42, 47, 52, 57, 62, 67, 72], 42) := by decide +kernel
theorem dX12_count_48 : decode cX12_count 48 = .ok (.aload_n 0, 1) := by decide +kernel
theorem dX12_count_49 : decode cX12_count 49 = .ok (.getfield 170, 3) := by decide +kernel
theorem dX12_count_52 : decode cX12_count 52 = .ok (.ireturn, 1) := by decide +kernel
theorem dX12_count_53 : decode cX12_count 53 = .ok (.aload_n 0, 1) := by decide +kernel
theorem dX12_count_54 : decode cX12_count 54 = .ok (.getfield 309, 3) := by decide +kernel
theorem dX12_count_57 : decode cX12_count 57 = .ok (.ireturn, 1) := by decide +kernel
theorem dX12_count_58 : decode cX12_count 58 = .ok (.aload_n 0, 1) := by decide +kernel
theorem dX12_count_59 : decode cX12_count 59 = .ok (.getfield 316, 3) := by decide +kernel
theorem dX12_count_62 : decode cX12_count 62 = .ok (.ireturn, 1) := by decide +kernel
theorem dX12_count_63 : decode cX12_count 63 = .ok (.aload_n 0, 1) := by decide +kernel
theorem dX12_count_64 : decode cX12_count 64 = .ok (.getfield 330, 3) := by decide +kernel
theorem dX12_count_67 : decode cX12_count 67 = .ok (.ireturn, 1) := by decide +kernel
theorem dX12_count_68 : decode cX12_count 68 = .ok (.aload_n 0, 1) := by decide +kernel
theorem dX12_count_69 : decode cX12_count 69 = .ok (.getfield 466, 3) := by decide +kernel
theorem dX12_count_72 : decode cX12_count 72 = .ok (.ireturn, 1) := by decide +kernel
theorem dX12_count_73 : decode cX12_count 73 = .ok (.aload_n 0, 1) := by decide +kernel
theorem dX12_count_74 : decode cX12_count 74 = .ok (.getfield 212, 3) := by decide +kernel
theorem dX12_count_77 : decode cX12_count 77 = .ok (.ireturn, 1) := by decide +kernel
theorem dX12_count_78 : decode cX12_count 78 = .ok (.aload_n 0, 1) := by decide +kernel
theorem dX12_count_79 : decode cX12_count 79 = .ok (.getfield 105, 3) := by decide +kernel
theorem dX12_count_82 : decode cX12_count 82 = .ok (.ireturn, 1) := by decide +kernel
theorem dX12_count_83 : decode cX12_count 83 = .ok (.iconst (-1), 1) := by decide +kernel
theorem dX12_count_84 : decode cX12_count 84 = .ok (.ireturn, 1) := by decide +kernel
theorem dJ11_isValidCodePoint_9a6ad_0 : decode cJ11_isValidCodePoint_9a6ad 0 = .ok (.iload_n 0, 1) := by decide +kernel
theorem dJ11_isValidCodePoint_9a6ad_1 : decode cJ11_isValidCodePoint_9a6ad 1 = .ok (.bipush 16, 2) := by decide +kernel
theorem dJ11_isValidCodePoint_9a6ad_3 : decode cJ11_isValidCodePoint_9a6ad 3 = .ok (.iushr, 1) := by decide +kernel
theorem dJ11_isValidCodePoint_9a6ad_4 : decode cJ11_isValidCodePoint_9a6ad 4 = .ok (.istore_n 1, 1) := by decide +kernel
theorem dJ11_isValidCodePoint_9a6ad_5 : decode cJ11_isValidCodePoint_9a6ad 5 = .ok (.iload_n 1, 1) := by decide +kernel
theorem dJ11_isValidCodePoint_9a6ad_6 : decode cJ11_isValidCodePoint_9a6ad 6 = .ok (.bipush 17, 2) := by decide +kernel
theorem dJ11_isValidCodePoint_9a6ad_8 : decode cJ11_isValidCodePoint_9a6ad 8 = .ok (.if_icmp .ge 7, 3) := by decide +kernel
theorem dJ11_isValidCodePoint_9a6ad_11 : decode cJ11_isValidCodePoint_9a6ad 11 = .ok (.iconst 1, 1) := by decide +kernel
theorem dJ11_isValidCodePoint_9a6ad_12 : decode cJ11_isValidCodePoint_9a6ad 12 = .ok (.goto 4, 3) := by decide +kernel
theorem dJ11_isValidCodePoint_9a6ad_15 : decode cJ11_isValidCodePoint_9a6ad 15 = .ok (.iconst 0, 1) := by decide +kernel
theorem dJ11_isValidCodePoint_9a6ad_16 : decode cJ11_isValidCodePoint_9a6ad 16 = .ok (.ireturn, 1) := by decide +kernel
theorem dJ11_highSurrogate_5068e_0 : decode cJ11_highSurrogate_5068e 0 = .ok (.iload_n 0, 1) := by decide +kernel
theorem dJ11_highSurrogate_5068e_1 : decode cJ11_highSurrogate_5068e 1 = .ok (.bipush 10, 2) := by decide +kernel
theorem dJ11_highSurrogate_5068e_3 : decode cJ11_highSurrogate_5068e 3 = .ok (.iushr, 1) := by decide +kernel
theorem dJ11_highSurrogate_5068e_4 : decode cJ11_highSurrogate_5068e 4 = .ok (.ldc 110, 2) := by decide +kernel
theorem dJ11_highSurrogate_5068e_6 : decode cJ11_highSurrogate_5068e 6 = .ok (.iadd, 1) := by decide +kernel
theorem dJ11_highSurrogate_5068e_7 : decode cJ11_highSurrogate_5068e 7 = .ok (.i2c, 1) := by decide +kernel
theorem dJ11_highSurrogate_5068e_8 : decode cJ11_highSurrogate_5068e 8 = .ok (.ireturn, 1) := by decide +kernel
theorem dJ11_lowSurrogate_5068e_0 : decode cJ11_lowSurrogate_5068e 0 = .ok (.iload_n 0, 1) := by decide +kernel
theorem dJ11_lowSurrogate_5068e_1 : decode cJ11_lowSurrogate_5068e 1 = .ok (.sipush 1023, 3) := by decide +kernel
theorem dJ11_lowSurrogate_5068e_4 : decode cJ11_lowSurrogate_5068e 4 = .ok (.iand, 1) := by decide +kernel
theorem dJ11_lowSurrogate_5068e_5 : decode cJ11_lowSurrogate_5068e 5 = .ok (.ldc 76, 2) := by decide +kernel
theorem dJ11_lowSurrogate_5068e_7 : decode cJ11_lowSurrogate_5068e 7 = .ok (.iadd, 1) := by decide +kernel
theorem dJ11_lowSurrogate_5068e_8 : decode cJ11_lowSurrogate_5068e 8 = .ok (.i2c, 1) := by decide +kernel
theorem dJ11_lowSurrogate_5068e_9 : decode cJ11_lowSurrogate_5068e 9 = .ok (.ireturn, 1) := by decide +kernel
theorem dJ6_bitCount_0f7a4_0 : decode cJ6_bitCount_0f7a4 0 = .ok (.iload_n 0, 1) := by decide +kernel
theorem dJ6_bitCount_0f7a4_1 : decode cJ6_bitCount_0f7a4 1 = .ok (.iload_n 0, 1) := by decide +kernel
theorem dJ6_bitCount_0f7a4_2 : decode cJ6_bitCount_0f7a4 2 = .ok (.iconst 1, 1) := by decide +kernel
theorem dJ6_bitCount_0f7a4_3 : decode cJ6_bitCount_0f7a4 3 = .ok (.iushr, 1) := by decide +kernel
theorem dJ6_bitCount_0f7a4_4 : decode cJ6_bitCount_0f7a4 4 = .ok (.ldc_w 265, 3) := by decide +kernel
theorem dJ6_bitCount_0f7a4_7 : decode cJ6_bitCount_0f7a4 7 = .ok (.iand, 1) := by decide +kernel
theorem dJ6_bitCount_0f7a4_8 : decode cJ6_bitCount_0f7a4 8 = .ok (.isub, 1) := by decide +kernel
theorem dJ6_bitCount_0f7a4_9 : decode cJ6_bitCount_0f7a4 9 = .ok (.istore_n 0, 1) := by decide +kernel
theorem dJ6_bitCount_0f7a4_10 : decode cJ6_bitCount_0f7a4 10 = .ok (.iload_n 0, 1) := by decide +kernel
theorem dJ6_bitCount_0f7a4_11 : decode cJ6_bitCount_0f7a4 11 = .ok (.ldc_w 266, 3) := by decide +kernel
theorem dJ6_bitCount_0f7a4_14 : decode cJ6_bitCount_0f7a4 14 = .ok (.iand, 1) := by decide +kernel
theorem dJ6_bitCount_0f7a4_15 : decode cJ6_bitCount_0f7a4 15 = .ok (.iload_n 0, 1) := by decide +kernel
theorem dJ6_bitCount_0f7a4_16 : decode cJ6_bitCount_0f7a4 16 = .ok (.iconst 2, 1) := by decide +kernel
theorem dJ6_bitCount_0f7a4_17 : decode cJ6_bitCount_0f7a4 17 = .ok (.iushr, 1) := by decide +kernel
theorem dJ6_bitCount_0f7a4_18 : decode cJ6_bitCount_0f7a4 18 = .ok (.ldc_w 266, 3) := by decide +kernel
theorem dJ6_bitCount_0f7a4_21 : decode cJ6_bitCount_0f7a4 21 = .ok (.iand, 1) := by decide +kernel
theorem dJ6_bitCount_0f7a4_22 : decode cJ6_bitCount_0f7a4 22 = .ok (.iadd, 1) := by decide +kernel
theorem dJ6_bitCount_0f7a4_23 : decode cJ6_bitCount_0f7a4 23 = .ok (.istore_n 0, 1) := by decide +kernel
theorem dJ6_bitCount_0f7a4_24 : decode cJ6_bitCount_0f7a4 24 = .ok (.iload_n 0, 1) := by decide +kernel
theorem dJ6_bitCount_0f7a4_25 : decode cJ6_bitCount_0f7a4 25 = .ok (.iload_n 0, 1) := by decide +kernel
theorem dJ6_bitCount_0f7a4_26 : decode cJ6_bitCount_0f7a4 26 = .ok (.iconst 4, 1) := by decide +kernel
theorem dJ6_bitCount_0f7a4_27 : decode cJ6_bitCount_0f7a4 27 = .ok (.iushr, 1) := by decide +kernel
theorem dJ6_bitCount_0f7a4_28 : decode cJ6_bitCount_0f7a4 28 = .ok (.iadd, 1) := by decide +kernel
theorem dJ6_bitCount_0f7a4_29 : decode cJ6_bitCount_0f7a4 29 = .ok (.ldc_w 267, 3) := by decide +kernel
theorem dJ6_bitCount_0f7a4_32 : decode cJ6_bitCount_0f7a4 32 = .ok (.iand, 1) := by decide +kernel
theorem dJ6_bitCount_0f7a4_33 : decode cJ6_bitCount_0f7a4 33 = .ok (.istore_n 0, 1) := by decide +kernel
theorem dJ6_bitCount_0f7a4_34 : decode cJ6_bitCount_0f7a4 34 = .ok (.iload_n 0, 1) := by decide +kernel
theorem dJ6_bitCount_0f7a4_35 : decode cJ6_bitCount_0f7a4 35 = .ok (.iload_n 0, 1) := by decide +kernel
theorem dJ6_bitCount_0f7a4_36 : decode cJ6_bitCount_0f7a4 36 = .ok (.bipush 8, 2) := by decide +kernel
theorem dJ6_bitCount_0f7a4_38 : decode cJ6_bitCount_0f7a4 38 = .ok (.iushr, 1) := by decide +kernel
theorem dJ6_bitCount_0f7a4_39 : decode cJ6_bitCount_0f7a4 39 = .ok (.iadd, 1) := by decide +kernel
theorem dJ6_bitCount_0f7a4_40 : decode cJ6_bitCount_0f7a4 40 = .ok (.istore_n 0, 1) := by decide +kernel
theorem dJ6_bitCount_0f7a4_41 : decode cJ6_bitCount_0f7a4 41 = .ok (.iload_n 0, 1) := by decide +kernel
theorem dJ6_bitCount_0f7a4_42 : decode cJ6_bitCount_0f7a4 42 = .ok (.iload_n 0, 1) := by decide +kernel
theorem dJ6_bitCount_0f7a4_43 : decode cJ6_bitCount_0f7a4 43 = .ok (.bipush 16, 2) := by decide +kernel
theorem dJ6_bitCount_0f7a4_45 : decode cJ6_bitCount_0f7a4 45 = .ok (.iushr, 1) := by decide +kernel
theorem dJ6_bitCount_0f7a4_46 : decode cJ6_bitCount_0f7a4 46 = .ok (.iadd, 1) := by decide +kernel
theorem dJ6_bitCount_0f7a4_47 : decode cJ6_bitCount_0f7a4 47 = .ok (.istore_n 0, 1) := by decide +kernel
theorem dJ6_bitCount_0f7a4_48 : decode cJ6_bitCount_0f7a4 48 = .ok (.iload_n 0, 1) := by decide +kernel
theorem dJ6_bitCount_0f7a4_49 : decode cJ6_bitCount_0f7a4 49 = .ok (.bipush 63, 2) := by decide +kernel
theorem dJ6_bitCount_0f7a4_51 : decode cJ6_bitCount_0f7a4 51 = .ok (.iand, 1) := by decide +kernel
theorem dJ6_bitCount_0f7a4_52 : decode cJ6_bitCount_0f7a4 52 = .ok (.ireturn, 1) := by decide +kernel
theorem dJ9_floorMod_f86c9_0 : decode cJ9_floorMod_f86c9 0 = .ok (.lload_n 0, 1) := by decide +kernel
theorem dJ9_floorMod_f86c9_1 : decode cJ9_floorMod_f86c9 1 = .ok (.lload_n 2, 1) := by decide +kernel
theorem dJ9_floorMod_f86c9_2 : decode cJ9_floorMod_f86c9 2 = .ok (.lrem, 1) := by decide +kernel
theorem dJ9_floorMod_f86c9_3 : decode cJ9_floorMod_f86c9 3 = .ok (.lstore 4, 2) := by decide +kernel
theorem dJ9_floorMod_f86c9_5 : decode cJ9_floorMod_f86c9 5 = .ok (.lload_n 0, 1) := by decide +kernel
theorem dJ9_floorMod_f86c9_6 : decode cJ9_floorMod_f86c9 6 = .ok (.lload_n 2, 1) := by decide +kernel
theorem dJ9_floorMod_f86c9_7 : decode cJ9_floorMod_f86c9 7 = .ok (.lxor, 1) := by decide +kernel
theorem dJ9_floorMod_f86c9_8 : decode cJ9_floorMod_f86c9 8 = .ok (.lconst 0, 1) := by decide +kernel
theorem dJ9_floorMod_f86c9_9 : decode cJ9_floorMod_f86c9 9 = .ok (.lcmp, 1) := by decide +kernel
theorem dJ9_floorMod_f86c9_10 : decode cJ9_floorMod_f86c9 10 = .ok (.ifCond .ge 15, 3) := by decide +kernel
theorem dJ9_floorMod_f86c9_13 : decode cJ9_floorMod_f86c9 13 = .ok (.lload 4, 2) := by decide +kernel
theorem dJ9_floorMod_f86c9_15 : decode cJ9_floorMod_f86c9 15 = .ok (.lconst 0, 1) := by decide +kernel
theorem dJ9_floorMod_f86c9_16 : decode cJ9_floorMod_f86c9 16 = .ok (.lcmp, 1) := by decide +kernel
theorem dJ9_floorMod_f86c9_17 : decode cJ9_floorMod_f86c9 17 = .ok (.ifCond .eq 8, 3) := by decide +kernel
theorem dJ9_floorMod_f86c9_20 : decode cJ9_floorMod_f86c9 20 = .ok (.lload 4, 2) := by decide +kernel
theorem dJ9_floorMod_f86c9_22 : decode cJ9_floorMod_f86c9 22 = .ok (.lload_n 2, 1) := by decide +kernel
theorem dJ9_floorMod_f86c9_23 : decode cJ9_floorMod_f86c9 23 = .ok (.ladd, 1) := by decide +kernel
theorem dJ9_floorMod_f86c9_24 : decode cJ9_floorMod_f86c9 24 = .ok (.lreturn, 1) := by decide +kernel
theorem dJ9_floorMod_f86c9_25 : decode cJ9_floorMod_f86c9 25 = .ok (.lload 4, 2) := by decide +kernel
theorem dJ9_floorMod_f86c9_27 : decode cJ9_floorMod_f86c9 27 = .ok (.lreturn, 1) := by decide +kernel
theorem dJ9_max_7cf53_0 : decode cJ9_max_7cf53 0 = .ok (.iload_n 0, 1) := by decide +kernel
theorem dJ9_max_7cf53_1 : decode cJ9_max_7cf53 1 = .ok (.iload_n 1, 1) := by decide +kernel
theorem dJ9_max_7cf53_2 : decode cJ9_max_7cf53 2 = .ok (.if_icmp .lt 7, 3) := by decide +kernel
theorem dJ9_max_7cf53_5 : decode cJ9_max_7cf53 5 = .ok (.iload_n 0, 1) := by decide +kernel
theorem dJ9_max_7cf53_6 : decode cJ9_max_7cf53 6 = .ok (.goto 4, 3) := by decide +kernel
theorem dJ9_max_7cf53_9 : decode cJ9_max_7cf53 9 = .ok (.iload_n 1, 1) := by decide +kernel
theorem dJ9_max_7cf53_10 : decode cJ9_max_7cf53 10 = .ok (.ireturn, 1) := by decide +kernel
theorem dJ9_max_f86c9_0 : decode cJ9_max_f86c9 0 = .ok (.lload_n 0, 1) := by decide +kernel
theorem dJ9_max_f86c9_1 : decode cJ9_max_f86c9 1 = .ok (.lload_n 2, 1) := by decide +kernel
theorem dJ9_max_f86c9_2 : decode cJ9_max_f86c9 2 = .ok (.lcmp, 1) := by decide +kernel
theorem dJ9_max_f86c9_3 : decode cJ9_max_f86c9 3 = .ok (.ifCond .lt 7, 3) := by decide +kernel
theorem dJ9_max_f86c9_6 : decode cJ9_max_f86c9 6 = .ok (.lload_n 0, 1) := by decide +kernel
theorem dJ9_max_f86c9_7 : decode cJ9_max_f86c9 7 = .ok (.goto 4, 3) := by decide +kernel
theorem dJ9_max_f86c9_10 : decode cJ9_max_f86c9 10 = .ok (.lload_n 2, 1) := by decide +kernel
theorem dJ9_max_f86c9_11 : decode cJ9_max_f86c9 11 = .ok (.lreturn, 1) := by decide +kernel
theorem dJ9_min_7cf53_0 : decode cJ9_min_7cf53 0 = .ok (.iload_n 0, 1) := by decide +kernel
theorem dJ9_min_7cf53_1 : decode cJ9_min_7cf53 1 = .ok (.iload_n 1, 1) := by decide +kernel
theorem dJ9_min_7cf53_2 : decode cJ9_min_7cf53 2 = .ok (.if_icmp .gt 7, 3) := by decide +kernel
theorem dJ9_min_7cf53_5 : decode cJ9_min_7cf53 5 = .ok (.iload_n 0, 1) := by decide +kernel
theorem dJ9_min_7cf53_6 : decode cJ9_min_7cf53 6 = .ok (.goto 4, 3) := by decide +kernel
theorem dJ9_min_7cf53_9 : decode cJ9_min_7cf53 9 = .ok (.iload_n 1, 1) := by decide +kernel
theorem dJ9_min_7cf53_10 : decode cJ9_min_7cf53 10 = .ok (.ireturn, 1) := by decide +kernel
theorem dJ9_min_f86c9_0 : decode cJ9_min_f86c9 0 = .ok (.lload_n 0, 1) := by decide +kernel
theorem dJ9_min_f86c9_1 : decode cJ9_min_f86c9 1 = .ok (.lload_n 2, 1) := by decide +kernel
theorem dJ9_min_f86c9_2 : decode cJ9_min_f86c9 2 = .ok (.lcmp, 1) := by decide +kernel
theorem dJ9_min_f86c9_3 : decode cJ9_min_f86c9 3 = .ok (.ifCond .gt 7, 3) := by decide +kernel
theorem dJ9_min_f86c9_6 : decode cJ9_min_f86c9 6 = .ok (.lload_n 0, 1) := by decide +kernel
theorem dJ9_min_f86c9_7 : decode cJ9_min_f86c9 7 = .ok (.goto 4, 3) := by decide +kernel
theorem dJ9_min_f86c9_10 : decode cJ9_min_f86c9 10 = .ok (.lload_n 2, 1) := by decide +kernel
theorem dJ9_min_f86c9_11 : decode cJ9_min_f86c9 11 = .ok (.lreturn, 1) := by decide +kernel
theorem dJ0_length_8abf5_0 : decode cJ0_length_8abf5 0 = .ok (.aload_n 0, 1) := by decide +kernel
theorem dJ0_length_8abf5_1 : decode cJ0_length_8abf5 1 = .ok (.getfield 9, 3) := by decide +kernel
theorem dJ0_length_8abf5_4 : decode cJ0_length_8abf5 4 = .ok (.arraylength, 1) := by decide +kernel
theorem dJ0_length_8abf5_5 : decode cJ0_length_8abf5 5 = .ok (.aload_n 0, 1) := by decide +kernel
theorem dJ0_length_8abf5_6 : decode cJ0_length_8abf5 6 = .ok (.invokevirtual 335, 3) := by decide +kernel
theorem dJ0_length_8abf5_9 : decode cJ0_length_8abf5 9 = .ok (.ishr, 1) := by decide +kernel
theorem dJ0_length_8abf5_10 : decode cJ0_length_8abf5 10 = .ok (.ireturn, 1) := by decide +kernel
theorem dJ0_indexOf_0f7a4_0 : decode cJ0_indexOf_0f7a4 0 = .ok (.aload_n 0, 1) := by decide +kernel
theorem dJ0_indexOf_0f7a4_1 : decode cJ0_indexOf_0f7a4 1 = .ok (.iload_n 1, 1) := by decide +kernel
theorem dJ0_indexOf_0f7a4_2 : decode cJ0_indexOf_0f7a4 2 = .ok (.iconst 0, 1) := by decide +kernel
theorem dJ0_indexOf_0f7a4_3 : decode cJ0_indexOf_0f7a4 3 = .ok (.invokevirtual 633, 3) := by decide +kernel
theorem dJ0_indexOf_0f7a4_6 : decode cJ0_indexOf_0f7a4 6 = .ok (.ireturn, 1) := by decide +kernel
theorem dJ0_indexOf_7cf53_0 : decode cJ0_indexOf_7cf53 0 = .ok (.aload_n 0, 1) := by decide +kernel
theorem dJ0_indexOf_7cf53_1 : decode cJ0_indexOf_7cf53 1 = .ok (.invokevirtual 492, 3) := by decide +kernel
theorem dJ0_indexOf_7cf53_4 : decode cJ0_indexOf_7cf53 4 = .ok (.ifCond .eq 19, 3) := by decide +kernel
theorem dJ0_indexOf_7cf53_7 : decode cJ0_indexOf_7cf53 7 = .ok (.aload_n 0, 1) := by decide +kernel
theorem dJ0_indexOf_7cf53_8 : decode cJ0_indexOf_7cf53 8 = .ok (.getfield 9, 3) := by decide +kernel
theorem dJ0_indexOf_7cf53_11 : decode cJ0_indexOf_7cf53 11 = .ok (.iload_n 1, 1) := by decide +kernel
theorem dJ0_indexOf_7cf53_12 : decode cJ0_indexOf_7cf53 12 = .ok (.iload_n 2, 1) := by decide +kernel
theorem dJ0_indexOf_7cf53_13 : decode cJ0_indexOf_7cf53 13 = .ok (.aload_n 0, 1) := by decide +kernel
theorem dJ0_indexOf_7cf53_14 : decode cJ0_indexOf_7cf53 14 = .ok (.invokevirtual 505, 3) := by decide +kernel
theorem dJ0_indexOf_7cf53_17 : decode cJ0_indexOf_7cf53 17 = .ok (.invokestatic 637, 3) := by decide +kernel
theorem dJ0_indexOf_7cf53_20 : decode cJ0_indexOf_7cf53 20 = .ok (.goto 16, 3) := by decide +kernel
theorem dJ0_indexOf_7cf53_23 : decode cJ0_indexOf_7cf53 23 = .ok (.aload_n 0, 1) := by decide +kernel
theorem dJ0_indexOf_7cf53_24 : decode cJ0_indexOf_7cf53 24 = .ok (.getfield 9, 3) := by decide +kernel
theorem dJ0_indexOf_7cf53_27 : decode cJ0_indexOf_7cf53 27 = .ok (.iload_n 1, 1) := by decide +kernel
theorem dJ0_indexOf_7cf53_28 : decode cJ0_indexOf_7cf53 28 = .ok (.iload_n 2, 1) := by decide +kernel
theorem dJ0_indexOf_7cf53_29 : decode cJ0_indexOf_7cf53 29 = .ok (.aload_n 0, 1) := by decide +kernel
theorem dJ0_indexOf_7cf53_30 : decode cJ0_indexOf_7cf53 30 = .ok (.invokevirtual 505, 3) := by decide +kernel
theorem dJ0_indexOf_7cf53_33 : decode cJ0_indexOf_7cf53 33 = .ok (.invokestatic 640, 3) := by decide +kernel
theorem dJ0_indexOf_7cf53_36 : decode cJ0_indexOf_7cf53 36 = .ok (.ireturn, 1) := by decide +kernel
theorem dJ0_coder_7d493_0 : decode cJ0_coder_7d493 0 = .ok (.getstatic 38, 3) := by decide +kernel
theorem dJ0_coder_7d493_3 : decode cJ0_coder_7d493 3 = .ok (.ifCond .eq 10, 3) := by decide +kernel
theorem dJ0_coder_7d493_6 : decode cJ0_coder_7d493 6 = .ok (.aload_n 0, 1) := by decide +kernel
theorem dJ0_coder_7d493_7 : decode cJ0_coder_7d493 7 = .ok (.getfield 15, 3) := by decide +kernel
theorem dJ0_coder_7d493_10 : decode cJ0_coder_7d493 10 = .ok (.goto 4, 3) := by decide +kernel
theorem dJ0_coder_7d493_13 : decode cJ0_coder_7d493 13 = .ok (.iconst 1, 1) := by decide +kernel
theorem dJ0_coder_7d493_14 : decode cJ0_coder_7d493 14 = .ok (.ireturn, 1) := by decide +kernel
theorem dJ0_isLatin1_aae02_0 : decode cJ0_isLatin1_aae02 0 = .ok (.getstatic 38, 3) := by decide +kernel
theorem dJ0_isLatin1_aae02_3 : decode cJ0_isLatin1_aae02 3 = .ok (.ifCond .eq 14, 3) := by decide +kernel
theorem dJ0_isLatin1_aae02_6 : decode cJ0_isLatin1_aae02 6 = .ok (.aload_n 0, 1) := by decide +kernel
theorem dJ0_isLatin1_aae02_7 : decode cJ0_isLatin1_aae02 7 = .ok (.getfield 15, 3) := by decide +kernel
theorem dJ0_isLatin1_aae02_10 : decode cJ0_isLatin1_aae02 10 = .ok (.ifCond .ne 7, 3) := by decide +kernel
theorem dJ0_isLatin1_aae02_13 : decode cJ0_isLatin1_aae02 13 = .ok (.iconst 1, 1) := by decide +kernel
theorem dJ0_isLatin1_aae02_14 : decode cJ0_isLatin1_aae02 14 = .ok (.goto 4, 3) := by decide +kernel
theorem dJ0_isLatin1_aae02_17 : decode cJ0_isLatin1_aae02 17 = .ok (.iconst 0, 1) := by decide +kernel
theorem dJ0_isLatin1_aae02_18 : decode cJ0_isLatin1_aae02 18 = .ok (.ireturn, 1) := by decide +kernel
theorem dJ0_checkBoundsBeginEnd_23922_0 : decode cJ0_checkBoundsBeginEnd_23922 0 = .ok (.iload_n 0, 1) := by decide +kernel
theorem dJ0_checkBoundsBeginEnd_23922_1 : decode cJ0_checkBoundsBeginEnd_23922 1 = .ok (.iload_n 1, 1) := by decide +kernel
theorem dJ0_checkBoundsBeginEnd_23922_2 : decode cJ0_checkBoundsBeginEnd_23922 2 = .ok (.iload_n 2, 1) := by decide +kernel
theorem dJ0_checkBoundsBeginEnd_23922_3 : decode cJ0_checkBoundsBeginEnd_23922 3 = .ok (.getstatic 1053, 3) := by decide +kernel
theorem dJ0_checkBoundsBeginEnd_23922_6 : decode cJ0_checkBoundsBeginEnd_23922 6 = .ok (.invokestatic 1062, 3) := by decide +kernel
theorem dJ0_checkBoundsBeginEnd_23922_9 : decode cJ0_checkBoundsBeginEnd_23922 9 = .ok (.pop, 1) := by decide +kernel
theorem dJ0_checkBoundsBeginEnd_23922_10 : decode cJ0_checkBoundsBeginEnd_23922 10 = .ok (.return_, 1) := by decide +kernel
theorem dJ1_canEncode_9a6ad_0 : decode cJ1_canEncode_9a6ad 0 = .ok (.iload_n 0, 1) := by decide +kernel
theorem dJ1_canEncode_9a6ad_1 : decode cJ1_canEncode_9a6ad 1 = .ok (.ifCond .lt 14, 3) := by decide +kernel
theorem dJ1_canEncode_9a6ad_4 : decode cJ1_canEncode_9a6ad 4 = .ok (.iload_n 0, 1) := by decide +kernel
theorem dJ1_canEncode_9a6ad_5 : decode cJ1_canEncode_9a6ad 5 = .ok (.sipush 255, 3) := by decide +kernel
theorem dJ1_canEncode_9a6ad_8 : decode cJ1_canEncode_9a6ad 8 = .ok (.if_icmp .gt 7, 3) := by decide +kernel
theorem dJ1_canEncode_9a6ad_11 : decode cJ1_canEncode_9a6ad 11 = .ok (.iconst 1, 1) := by decide +kernel
theorem dJ1_canEncode_9a6ad_12 : decode cJ1_canEncode_9a6ad 12 = .ok (.goto 4, 3) := by decide +kernel
theorem dJ1_canEncode_9a6ad_15 : decode cJ1_canEncode_9a6ad 15 = .ok (.iconst 0, 1) := by decide +kernel
theorem dJ1_canEncode_9a6ad_16 : decode cJ1_canEncode_9a6ad 16 = .ok (.ireturn, 1) := by decide +kernel
theorem dJ1_indexOf_4cfef_0 : decode cJ1_indexOf_4cfef 0 = .ok (.iload_n 1, 1) := by decide +kernel
theorem dJ1_indexOf_4cfef_1 : decode cJ1_indexOf_4cfef 1 = .ok (.invokestatic 88, 3) := by decide +kernel
theorem dJ1_indexOf_4cfef_4 : decode cJ1_indexOf_4cfef 4 = .ok (.ifCond .ne 5, 3) := by decide +kernel
theorem dJ1_indexOf_4cfef_7 : decode cJ1_indexOf_4cfef 7 = .ok (.iconst (-1), 1) := by decide +kernel
theorem dJ1_indexOf_4cfef_8 : decode cJ1_indexOf_4cfef 8 = .ok (.ireturn, 1) := by decide +kernel
theorem dJ1_indexOf_4cfef_9 : decode cJ1_indexOf_4cfef 9 = .ok (.iload_n 2, 1) := by decide +kernel
theorem dJ1_indexOf_4cfef_10 : decode cJ1_indexOf_4cfef 10 = .ok (.iconst 0, 1) := by decide +kernel
theorem dJ1_indexOf_4cfef_11 : decode cJ1_indexOf_4cfef 11 = .ok (.invokestatic 92, 3) := by decide +kernel
theorem dJ1_indexOf_4cfef_14 : decode cJ1_indexOf_4cfef 14 = .ok (.istore_n 2, 1) := by decide +kernel
theorem dJ1_indexOf_4cfef_15 : decode cJ1_indexOf_4cfef 15 = .ok (.iload_n 3, 1) := by decide +kernel
theorem dJ1_indexOf_4cfef_16 : decode cJ1_indexOf_4cfef 16 = .ok (.aload_n 0, 1) := by decide +kernel
theorem dJ1_indexOf_4cfef_17 : decode cJ1_indexOf_4cfef 17 = .ok (.arraylength, 1) := by decide +kernel
theorem dJ1_indexOf_4cfef_18 : decode cJ1_indexOf_4cfef 18 = .ok (.invokestatic 38, 3) := by decide +kernel
theorem dJ1_indexOf_4cfef_21 : decode cJ1_indexOf_4cfef 21 = .ok (.istore_n 3, 1) := by decide +kernel
theorem dJ1_indexOf_4cfef_22 : decode cJ1_indexOf_4cfef 22 = .ok (.iload_n 2, 1) := by decide +kernel
theorem dJ1_indexOf_4cfef_23 : decode cJ1_indexOf_4cfef 23 = .ok (.iload_n 3, 1) := by decide +kernel
theorem dJ1_indexOf_4cfef_24 : decode cJ1_indexOf_4cfef 24 = .ok (.if_icmp .lt 5, 3) := by decide +kernel
theorem dJ1_indexOf_4cfef_27 : decode cJ1_indexOf_4cfef 27 = .ok (.iconst (-1), 1) := by decide +kernel
theorem dJ1_indexOf_4cfef_28 : decode cJ1_indexOf_4cfef 28 = .ok (.ireturn, 1) := by decide +kernel
theorem dJ1_indexOf_4cfef_29 : decode cJ1_indexOf_4cfef 29 = .ok (.aload_n 0, 1) := by decide +kernel
theorem dJ1_indexOf_4cfef_30 : decode cJ1_indexOf_4cfef 30 = .ok (.iload_n 1, 1) := by decide +kernel
theorem dJ1_indexOf_4cfef_31 : decode cJ1_indexOf_4cfef 31 = .ok (.iload_n 2, 1) := by decide +kernel
theorem dJ1_indexOf_4cfef_32 : decode cJ1_indexOf_4cfef 32 = .ok (.iload_n 3, 1) := by decide +kernel
theorem dJ1_indexOf_4cfef_33 : decode cJ1_indexOf_4cfef 33 = .ok (.invokestatic 95, 3) := by decide +kernel
theorem dJ1_indexOf_4cfef_36 : decode cJ1_indexOf_4cfef 36 = .ok (.ireturn, 1) := by decide +kernel
theorem dJ1_indexOfChar_4cfef_0 : decode cJ1_indexOfChar_4cfef 0 = .ok (.iload_n 1, 1) := by decide +kernel
theorem dJ1_indexOfChar_4cfef_1 : decode cJ1_indexOfChar_4cfef 1 = .ok (.i2b, 1) := by decide +kernel
theorem dJ1_indexOfChar_4cfef_2 : decode cJ1_indexOfChar_4cfef 2 = .ok (.istore 4, 2) := by decide +kernel
theorem dJ1_indexOfChar_4cfef_4 : decode cJ1_indexOfChar_4cfef 4 = .ok (.iload_n 2, 1) := by decide +kernel
theorem dJ1_indexOfChar_4cfef_5 : decode cJ1_indexOfChar_4cfef 5 = .ok (.istore 5, 2) := by decide +kernel
theorem dJ1_indexOfChar_4cfef_7 : decode cJ1_indexOfChar_4cfef 7 = .ok (.iload 5, 2) := by decide +kernel
theorem dJ1_indexOfChar_4cfef_9 : decode cJ1_indexOfChar_4cfef 9 = .ok (.iload_n 3, 1) := by decide +kernel
theorem dJ1_indexOfChar_4cfef_10 : decode cJ1_indexOfChar_4cfef 10 = .ok (.if_icmp .ge 21, 3) := by decide +kernel
theorem dJ1_indexOfChar_4cfef_13 : decode cJ1_indexOfChar_4cfef 13 = .ok (.aload_n 0, 1) := by decide +kernel
theorem dJ1_indexOfChar_4cfef_14 : decode cJ1_indexOfChar_4cfef 14 = .ok (.iload 5, 2) := by decide +kernel
theorem dJ1_indexOfChar_4cfef_16 : decode cJ1_indexOfChar_4cfef 16 = .ok (.baload, 1) := by decide +kernel
theorem dJ1_indexOfChar_4cfef_17 : decode cJ1_indexOfChar_4cfef 17 = .ok (.iload 4, 2) := by decide +kernel
theorem dJ1_indexOfChar_4cfef_19 : decode cJ1_indexOfChar_4cfef 19 = .ok (.if_icmp .ne 6, 3) := by decide +kernel
theorem dJ1_indexOfChar_4cfef_22 : decode cJ1_indexOfChar_4cfef 22 = .ok (.iload 5, 2) := by decide +kernel
theorem dJ1_indexOfChar_4cfef_24 : decode cJ1_indexOfChar_4cfef 24 = .ok (.ireturn, 1) := by decide +kernel
theorem dJ1_indexOfChar_4cfef_25 : decode cJ1_indexOfChar_4cfef 25 = .ok (.iinc 5 1, 3) := by decide +kernel
theorem dJ1_indexOfChar_4cfef_28 : decode cJ1_indexOfChar_4cfef 28 = .ok (.goto (-21), 3) := by decide +kernel
theorem dJ1_indexOfChar_4cfef_31 : decode cJ1_indexOfChar_4cfef 31 = .ok (.iconst (-1), 1) := by decide +kernel
theorem dJ1_indexOfChar_4cfef_32 : decode cJ1_indexOfChar_4cfef 32 = .ok (.ireturn, 1) := by decide +kernel
theorem dJ2_getChar_3b067_0 : decode cJ2_getChar_3b067 0 = .ok (.getstatic 44, 3) := by decide +kernel
theorem dJ2_getChar_3b067_3 : decode cJ2_getChar_3b067 3 = .ok (.ifCond .ne 25, 3) := by decide +kernel
theorem dJ2_getChar_3b067_6 : decode cJ2_getChar_3b067 6 = .ok (.iload_n 1, 1) := by decide +kernel
theorem dJ2_getChar_3b067_7 : decode cJ2_getChar_3b067 7 = .ok (.ifCond .lt 11, 3) := by decide +kernel
theorem dJ2_getChar_3b067_10 : decode cJ2_getChar_3b067 10 = .ok (.iload_n 1, 1) := by decide +kernel
theorem dJ2_getChar_3b067_11 : decode cJ2_getChar_3b067 11 = .ok (.aload_n 0, 1) := by decide +kernel
theorem dJ2_getChar_3b067_12 : decode cJ2_getChar_3b067 12 = .ok (.invokestatic 48, 3) := by decide +kernel
theorem dJ2_getChar_3b067_15 : decode cJ2_getChar_3b067 15 = .ok (.if_icmp .lt 13, 3) := by decide +kernel
theorem dJ2_getChar_3b067_18 : decode cJ2_getChar_3b067 18 = .ok (.new 52, 3) := by decide +kernel
theorem dJ2_getChar_3b067_21 : decode cJ2_getChar_3b067 21 = .ok (.dup, 1) := by decide +kernel
theorem dJ2_getChar_3b067_22 : decode cJ2_getChar_3b067 22 = .ok (.ldc 54, 2) := by decide +kernel
theorem dJ2_getChar_3b067_24 : decode cJ2_getChar_3b067 24 = .ok (.invokespecial 56, 3) := by decide +kernel
theorem dJ2_getChar_3b067_27 : decode cJ2_getChar_3b067 27 = .ok (.athrow, 1) := by decide +kernel
theorem dJ2_getChar_3b067_28 : decode cJ2_getChar_3b067 28 = .ok (.iload_n 1, 1) := by decide +kernel
theorem dJ2_getChar_3b067_29 : decode cJ2_getChar_3b067 29 = .ok (.iconst 1, 1) := by decide +kernel
theorem dJ2_getChar_3b067_30 : decode cJ2_getChar_3b067 30 = .ok (.ishl, 1) := by decide +kernel
theorem dJ2_getChar_3b067_31 : decode cJ2_getChar_3b067 31 = .ok (.istore_n 1, 1) := by decide +kernel
theorem dJ2_getChar_3b067_32 : decode cJ2_getChar_3b067 32 = .ok (.aload_n 0, 1) := by decide +kernel
theorem dJ2_getChar_3b067_33 : decode cJ2_getChar_3b067 33 = .ok (.iload_n 1, 1) := by decide +kernel
theorem dJ2_getChar_3b067_34 : decode cJ2_getChar_3b067 34 = .ok (.iinc 1 1, 3) := by decide +kernel
theorem dJ2_getChar_3b067_37 : decode cJ2_getChar_3b067 37 = .ok (.baload, 1) := by decide +kernel
theorem dJ2_getChar_3b067_38 : decode cJ2_getChar_3b067 38 = .ok (.sipush 255, 3) := by decide +kernel
theorem dJ2_getChar_3b067_41 : decode cJ2_getChar_3b067 41 = .ok (.iand, 1) := by decide +kernel
theorem dJ2_getChar_3b067_42 : decode cJ2_getChar_3b067 42 = .ok (.getstatic 59, 3) := by decide +kernel
theorem dJ2_getChar_3b067_45 : decode cJ2_getChar_3b067 45 = .ok (.ishl, 1) := by decide +kernel
theorem dJ2_getChar_3b067_46 : decode cJ2_getChar_3b067 46 = .ok (.aload_n 0, 1) := by decide +kernel
theorem dJ2_getChar_3b067_47 : decode cJ2_getChar_3b067 47 = .ok (.iload_n 1, 1) := by decide +kernel
theorem dJ2_getChar_3b067_48 : decode cJ2_getChar_3b067 48 = .ok (.baload, 1) := by decide +kernel
theorem dJ2_getChar_3b067_49 : decode cJ2_getChar_3b067 49 = .ok (.sipush 255, 3) := by decide +kernel
theorem dJ2_getChar_3b067_52 : decode cJ2_getChar_3b067 52 = .ok (.iand, 1) := by decide +kernel
theorem dJ2_getChar_3b067_53 : decode cJ2_getChar_3b067 53 = .ok (.getstatic 63, 3) := by decide +kernel
theorem dJ2_getChar_3b067_56 : decode cJ2_getChar_3b067 56 = .ok (.ishl, 1) := by decide +kernel
theorem dJ2_getChar_3b067_57 : decode cJ2_getChar_3b067 57 = .ok (.ior, 1) := by decide +kernel
theorem dJ2_getChar_3b067_58 : decode cJ2_getChar_3b067 58 = .ok (.i2c, 1) := by decide +kernel
theorem dJ2_getChar_3b067_59 : decode cJ2_getChar_3b067 59 = .ok (.ireturn, 1) := by decide +kernel
theorem dJ2_length_9d52b_0 : decode cJ2_length_9d52b 0 = .ok (.aload_n 0, 1) := by decide +kernel
theorem dJ2_length_9d52b_1 : decode cJ2_length_9d52b 1 = .ok (.arraylength, 1) := by decide +kernel
theorem dJ2_length_9d52b_2 : decode cJ2_length_9d52b 2 = .ok (.iconst 1, 1) := by decide +kernel
theorem dJ2_length_9d52b_3 : decode cJ2_length_9d52b 3 = .ok (.ishr, 1) := by decide +kernel
theorem dJ2_length_9d52b_4 : decode cJ2_length_9d52b 4 = .ok (.ireturn, 1) := by decide +kernel
theorem dJ2_indexOf_4cfef_0 : decode cJ2_indexOf_4cfef 0 = .ok (.iload_n 2, 1) := by decide +kernel
theorem dJ2_indexOf_4cfef_1 : decode cJ2_indexOf_4cfef 1 = .ok (.iconst 0, 1) := by decide +kernel
theorem dJ2_indexOf_4cfef_2 : decode cJ2_indexOf_4cfef 2 = .ok (.invokestatic 224, 3) := by decide +kernel
theorem dJ2_indexOf_4cfef_5 : decode cJ2_indexOf_4cfef 5 = .ok (.istore_n 2, 1) := by decide +kernel
theorem dJ2_indexOf_4cfef_6 : decode cJ2_indexOf_4cfef 6 = .ok (.iload_n 3, 1) := by decide +kernel
theorem dJ2_indexOf_4cfef_7 : decode cJ2_indexOf_4cfef 7 = .ok (.aload_n 0, 1) := by decide +kernel
theorem dJ2_indexOf_4cfef_8 : decode cJ2_indexOf_4cfef 8 = .ok (.arraylength, 1) := by decide +kernel
theorem dJ2_indexOf_4cfef_9 : decode cJ2_indexOf_4cfef 9 = .ok (.iconst 1, 1) := by decide +kernel
theorem dJ2_indexOf_4cfef_10 : decode cJ2_indexOf_4cfef 10 = .ok (.ishr, 1) := by decide +kernel
theorem dJ2_indexOf_4cfef_11 : decode cJ2_indexOf_4cfef 11 = .ok (.invokestatic 183, 3) := by decide +kernel
theorem dJ2_indexOf_4cfef_14 : decode cJ2_indexOf_4cfef 14 = .ok (.istore_n 3, 1) := by decide +kernel
theorem dJ2_indexOf_4cfef_15 : decode cJ2_indexOf_4cfef 15 = .ok (.iload_n 2, 1) := by decide +kernel
theorem dJ2_indexOf_4cfef_16 : decode cJ2_indexOf_4cfef 16 = .ok (.iload_n 3, 1) := by decide +kernel
theorem dJ2_indexOf_4cfef_17 : decode cJ2_indexOf_4cfef 17 = .ok (.if_icmp .lt 5, 3) := by decide +kernel
theorem dJ2_indexOf_4cfef_20 : decode cJ2_indexOf_4cfef 20 = .ok (.iconst (-1), 1) := by decide +kernel
theorem dJ2_indexOf_4cfef_21 : decode cJ2_indexOf_4cfef 21 = .ok (.ireturn, 1) := by decide +kernel
theorem dJ2_indexOf_4cfef_22 : decode cJ2_indexOf_4cfef 22 = .ok (.iload_n 1, 1) := by decide +kernel
theorem dJ2_indexOf_4cfef_23 : decode cJ2_indexOf_4cfef 23 = .ok (.ldc 227, 2) := by decide +kernel
theorem dJ2_indexOf_4cfef_25 : decode cJ2_indexOf_4cfef 25 = .ok (.if_icmp .ge 11, 3) := by decide +kernel
theorem dJ2_indexOf_4cfef_28 : decode cJ2_indexOf_4cfef 28 = .ok (.aload_n 0, 1) := by decide +kernel
theorem dJ2_indexOf_4cfef_29 : decode cJ2_indexOf_4cfef 29 = .ok (.iload_n 1, 1) := by decide +kernel
theorem dJ2_indexOf_4cfef_30 : decode cJ2_indexOf_4cfef 30 = .ok (.iload_n 2, 1) := by decide +kernel
theorem dJ2_indexOf_4cfef_31 : decode cJ2_indexOf_4cfef 31 = .ok (.iload_n 3, 1) := by decide +kernel
theorem dJ2_indexOf_4cfef_32 : decode cJ2_indexOf_4cfef 32 = .ok (.invokestatic 228, 3) := by decide +kernel
theorem dJ2_indexOf_4cfef_35 : decode cJ2_indexOf_4cfef 35 = .ok (.ireturn, 1) := by decide +kernel
theorem dJ2_indexOf_4cfef_36 : decode cJ2_indexOf_4cfef 36 = .ok (.aload_n 0, 1) := by decide +kernel
theorem dJ2_indexOf_4cfef_37 : decode cJ2_indexOf_4cfef 37 = .ok (.iload_n 1, 1) := by decide +kernel
theorem dJ2_indexOf_4cfef_38 : decode cJ2_indexOf_4cfef 38 = .ok (.iload_n 2, 1) := by decide +kernel
theorem dJ2_indexOf_4cfef_39 : decode cJ2_indexOf_4cfef 39 = .ok (.iload_n 3, 1) := by decide +kernel
theorem dJ2_indexOf_4cfef_40 : decode cJ2_indexOf_4cfef 40 = .ok (.invokestatic 232, 3) := by decide +kernel
theorem dJ2_indexOf_4cfef_43 : decode cJ2_indexOf_4cfef 43 = .ok (.ireturn, 1) := by decide +kernel
theorem dJ2_indexOfChar_4cfef_0 : decode cJ2_indexOfChar_4cfef 0 = .ok (.iload_n 2, 1) := by decide +kernel
theorem dJ2_indexOfChar_4cfef_1 : decode cJ2_indexOfChar_4cfef 1 = .ok (.iload_n 3, 1) := by decide +kernel
theorem dJ2_indexOfChar_4cfef_2 : decode cJ2_indexOfChar_4cfef 2 = .ok (.aload_n 0, 1) := by decide +kernel
theorem dJ2_indexOfChar_4cfef_3 : decode cJ2_indexOfChar_4cfef 3 = .ok (.invokestatic 96, 3) := by decide +kernel
theorem dJ2_indexOfChar_4cfef_6 : decode cJ2_indexOfChar_4cfef 6 = .ok (.aload_n 0, 1) := by decide +kernel
theorem dJ2_indexOfChar_4cfef_7 : decode cJ2_indexOfChar_4cfef 7 = .ok (.iload_n 1, 1) := by decide +kernel
theorem dJ2_indexOfChar_4cfef_8 : decode cJ2_indexOfChar_4cfef 8 = .ok (.iload_n 2, 1) := by decide +kernel
theorem dJ2_indexOfChar_4cfef_9 : decode cJ2_indexOfChar_4cfef 9 = .ok (.iload_n 3, 1) := by decide +kernel
theorem dJ2_indexOfChar_4cfef_10 : decode cJ2_indexOfChar_4cfef 10 = .ok (.invokestatic 244, 3) := by decide +kernel
theorem dJ2_indexOfChar_4cfef_13 : decode cJ2_indexOfChar_4cfef 13 = .ok (.ireturn, 1) := by decide +kernel
theorem dJ2_indexOfCharUnsafe_4cfef_0 : decode cJ2_indexOfCharUnsafe_4cfef 0 = .ok (.iload_n 2, 1) := by decide +kernel
theorem dJ2_indexOfCharUnsafe_4cfef_1 : decode cJ2_indexOfCharUnsafe_4cfef 1 = .ok (.istore 4, 2) := by decide +kernel
theorem dJ2_indexOfCharUnsafe_4cfef_3 : decode cJ2_indexOfCharUnsafe_4cfef 3 = .ok (.iload 4, 2) := by decide +kernel
theorem dJ2_indexOfCharUnsafe_4cfef_5 : decode cJ2_indexOfCharUnsafe_4cfef 5 = .ok (.iload_n 3, 1) := by decide +kernel
theorem dJ2_indexOfCharUnsafe_4cfef_6 : decode cJ2_indexOfCharUnsafe_4cfef 6 = .ok (.if_icmp .ge 22, 3) := by decide +kernel
theorem dJ2_indexOfCharUnsafe_4cfef_9 : decode cJ2_indexOfCharUnsafe_4cfef 9 = .ok (.aload_n 0, 1) := by decide +kernel
theorem dJ2_indexOfCharUnsafe_4cfef_10 : decode cJ2_indexOfCharUnsafe_4cfef 10 = .ok (.iload 4, 2) := by decide +kernel
theorem dJ2_indexOfCharUnsafe_4cfef_12 : decode cJ2_indexOfCharUnsafe_4cfef 12 = .ok (.invokestatic 71, 3) := by decide +kernel
theorem dJ2_indexOfCharUnsafe_4cfef_15 : decode cJ2_indexOfCharUnsafe_4cfef 15 = .ok (.iload_n 1, 1) := by decide +kernel
theorem dJ2_indexOfCharUnsafe_4cfef_16 : decode cJ2_indexOfCharUnsafe_4cfef 16 = .ok (.if_icmp .ne 6, 3) := by decide +kernel
theorem dJ2_indexOfCharUnsafe_4cfef_19 : decode cJ2_indexOfCharUnsafe_4cfef 19 = .ok (.iload 4, 2) := by decide +kernel
theorem dJ2_indexOfCharUnsafe_4cfef_21 : decode cJ2_indexOfCharUnsafe_4cfef 21 = .ok (.ireturn, 1) := by decide +kernel
theorem dJ2_indexOfCharUnsafe_4cfef_22 : decode cJ2_indexOfCharUnsafe_4cfef 22 = .ok (.iinc 4 1, 3) := by decide +kernel
theorem dJ2_indexOfCharUnsafe_4cfef_25 : decode cJ2_indexOfCharUnsafe_4cfef 25 = .ok (.goto (-22), 3) := by decide +kernel
theorem dJ2_indexOfCharUnsafe_4cfef_28 : decode cJ2_indexOfCharUnsafe_4cfef 28 = .ok (.iconst (-1), 1) := by decide +kernel
theorem dJ2_indexOfCharUnsafe_4cfef_29 : decode cJ2_indexOfCharUnsafe_4cfef 29 = .ok (.ireturn, 1) := by decide +kernel
theorem dJ2_indexOfSupplementary_4cfef_0 : decode cJ2_indexOfSupplementary_4cfef 0 = .ok (.iload_n 1, 1) := by decide +kernel
theorem dJ2_indexOfSupplementary_4cfef_1 : decode cJ2_indexOfSupplementary_4cfef 1 = .ok (.invokestatic 164, 3) := by decide +kernel
theorem dJ2_indexOfSupplementary_4cfef_4 : decode cJ2_indexOfSupplementary_4cfef 4 = .ok (.ifCond .eq 65, 3) := by decide +kernel
theorem dJ2_indexOfSupplementary_4cfef_7 : decode cJ2_indexOfSupplementary_4cfef 7 = .ok (.iload_n 1, 1) := by decide +kernel
theorem dJ2_indexOfSupplementary_4cfef_8 : decode cJ2_indexOfSupplementary_4cfef 8 = .ok (.invokestatic 157, 3) := by decide +kernel
theorem dJ2_indexOfSupplementary_4cfef_11 : decode cJ2_indexOfSupplementary_4cfef 11 = .ok (.istore 4, 2) := by decide +kernel
theorem dJ2_indexOfSupplementary_4cfef_13 : decode cJ2_indexOfSupplementary_4cfef 13 = .ok (.iload_n 1, 1) := by decide +kernel
theorem dJ2_indexOfSupplementary_4cfef_14 : decode cJ2_indexOfSupplementary_4cfef 14 = .ok (.invokestatic 161, 3) := by decide +kernel
theorem dJ2_indexOfSupplementary_4cfef_17 : decode cJ2_indexOfSupplementary_4cfef 17 = .ok (.istore 5, 2) := by decide +kernel
theorem dJ2_indexOfSupplementary_4cfef_19 : decode cJ2_indexOfSupplementary_4cfef 19 = .ok (.iload_n 2, 1) := by decide +kernel
theorem dJ2_indexOfSupplementary_4cfef_20 : decode cJ2_indexOfSupplementary_4cfef 20 = .ok (.iload_n 3, 1) := by decide +kernel
theorem dJ2_indexOfSupplementary_4cfef_21 : decode cJ2_indexOfSupplementary_4cfef 21 = .ok (.aload_n 0, 1) := by decide +kernel
theorem dJ2_indexOfSupplementary_4cfef_22 : decode cJ2_indexOfSupplementary_4cfef 22 = .ok (.invokestatic 96, 3) := by decide +kernel
theorem dJ2_indexOfSupplementary_4cfef_25 : decode cJ2_indexOfSupplementary_4cfef 25 = .ok (.iload_n 2, 1) := by decide +kernel
theorem dJ2_indexOfSupplementary_4cfef_26 : decode cJ2_indexOfSupplementary_4cfef 26 = .ok (.istore 6, 2) := by decide +kernel
theorem dJ2_indexOfSupplementary_4cfef_28 : decode cJ2_indexOfSupplementary_4cfef 28 = .ok (.iload 6, 2) := by decide +kernel
theorem dJ2_indexOfSupplementary_4cfef_30 : decode cJ2_indexOfSupplementary_4cfef 30 = .ok (.iload_n 3, 1) := by decide +kernel
theorem dJ2_indexOfSupplementary_4cfef_31 : decode cJ2_indexOfSupplementary_4cfef 31 = .ok (.iconst 1, 1) := by decide +kernel
theorem dJ2_indexOfSupplementary_4cfef_32 : decode cJ2_indexOfSupplementary_4cfef 32 = .ok (.isub, 1) := by decide +kernel
theorem dJ2_indexOfSupplementary_4cfef_33 : decode cJ2_indexOfSupplementary_4cfef 33 = .ok (.if_icmp .ge 36, 3) := by decide +kernel
theorem dJ2_indexOfSupplementary_4cfef_36 : decode cJ2_indexOfSupplementary_4cfef 36 = .ok (.aload_n 0, 1) := by decide +kernel
theorem dJ2_indexOfSupplementary_4cfef_37 : decode cJ2_indexOfSupplementary_4cfef 37 = .ok (.iload 6, 2) := by decide +kernel
theorem dJ2_indexOfSupplementary_4cfef_39 : decode cJ2_indexOfSupplementary_4cfef 39 = .ok (.invokestatic 71, 3) := by decide +kernel
theorem dJ2_indexOfSupplementary_4cfef_42 : decode cJ2_indexOfSupplementary_4cfef 42 = .ok (.iload 4, 2) := by decide +kernel
theorem dJ2_indexOfSupplementary_4cfef_44 : decode cJ2_indexOfSupplementary_4cfef 44 = .ok (.if_icmp .ne 19, 3) := by decide +kernel
theorem dJ2_indexOfSupplementary_4cfef_47 : decode cJ2_indexOfSupplementary_4cfef 47 = .ok (.aload_n 0, 1) := by decide +kernel
theorem dJ2_indexOfSupplementary_4cfef_48 : decode cJ2_indexOfSupplementary_4cfef 48 = .ok (.iload 6, 2) := by decide +kernel
theorem dJ2_indexOfSupplementary_4cfef_50 : decode cJ2_indexOfSupplementary_4cfef 50 = .ok (.iconst 1, 1) := by decide +kernel
theorem dJ2_indexOfSupplementary_4cfef_51 : decode cJ2_indexOfSupplementary_4cfef 51 = .ok (.iadd, 1) := by decide +kernel
theorem dJ2_indexOfSupplementary_4cfef_52 : decode cJ2_indexOfSupplementary_4cfef 52 = .ok (.invokestatic 71, 3) := by decide +kernel
theorem dJ2_indexOfSupplementary_4cfef_55 : decode cJ2_indexOfSupplementary_4cfef 55 = .ok (.iload 5, 2) := by decide +kernel
theorem dJ2_indexOfSupplementary_4cfef_57 : decode cJ2_indexOfSupplementary_4cfef 57 = .ok (.if_icmp .ne 6, 3) := by decide +kernel
theorem dJ2_indexOfSupplementary_4cfef_60 : decode cJ2_indexOfSupplementary_4cfef 60 = .ok (.iload 6, 2) := by decide +kernel
theorem dJ2_indexOfSupplementary_4cfef_62 : decode cJ2_indexOfSupplementary_4cfef 62 = .ok (.ireturn, 1) := by decide +kernel
theorem dJ2_indexOfSupplementary_4cfef_63 : decode cJ2_indexOfSupplementary_4cfef 63 = .ok (.iinc 6 1, 3) := by decide +kernel
theorem dJ2_indexOfSupplementary_4cfef_66 : decode cJ2_indexOfSupplementary_4cfef 66 = .ok (.goto (-38), 3) := by decide +kernel
theorem dJ2_indexOfSupplementary_4cfef_69 : decode cJ2_indexOfSupplementary_4cfef 69 = .ok (.iconst (-1), 1) := by decide +kernel
theorem dJ2_indexOfSupplementary_4cfef_70 : decode cJ2_indexOfSupplementary_4cfef 70 = .ok (.ireturn, 1) := by decide +kernel
theorem dJ2_checkBoundsBeginEnd_d044e_0 : decode cJ2_checkBoundsBeginEnd_d044e 0 = .ok (.iload_n 0, 1) := by decide +kernel
theorem dJ2_checkBoundsBeginEnd_d044e_1 : decode cJ2_checkBoundsBeginEnd_d044e 1 = .ok (.iload_n 1, 1) := by decide +kernel
theorem dJ2_checkBoundsBeginEnd_d044e_2 : decode cJ2_checkBoundsBeginEnd_d044e 2 = .ok (.aload_n 2, 1) := by decide +kernel
theorem dJ2_checkBoundsBeginEnd_d044e_3 : decode cJ2_checkBoundsBeginEnd_d044e 3 = .ok (.invokestatic 48, 3) := by decide +kernel
theorem dJ2_checkBoundsBeginEnd_d044e_6 : decode cJ2_checkBoundsBeginEnd_d044e 6 = .ok (.invokestatic 241, 3) := by decide +kernel
theorem dJ2_checkBoundsBeginEnd_d044e_9 : decode cJ2_checkBoundsBeginEnd_d044e 9 = .ok (.return_, 1) := by decide +kernel
theorem dJxa1e45_init_da8c8_0 : decode cJxa1e45_init_da8c8 0 = .ok (.aload_n 0, 1) := by decide +kernel
theorem dJxa1e45_init_da8c8_1 : decode cJxa1e45_init_da8c8 1 = .ok (.invokespecial 1, 3) := by decide +kernel
theorem dJxa1e45_init_da8c8_4 : decode cJxa1e45_init_da8c8 4 = .ok (.return_, 1) := by decide +kernel
theorem dJxc12de_init_da8c8_0 : decode cJxc12de_init_da8c8 0 = .ok (.aload_n 0, 1) := by decide +kernel
theorem dJxc12de_init_da8c8_1 : decode cJxc12de_init_da8c8 1 = .ok (.invokespecial 1, 3) := by decide +kernel
theorem dJxc12de_init_da8c8_4 : decode cJxc12de_init_da8c8 4 = .ok (.aload_n 0, 1) := by decide +kernel
theorem dJxc12de_init_da8c8_5 : decode cJxc12de_init_da8c8 5 = .ok (.iconst 0, 1) := by decide +kernel
theorem dJxc12de_init_da8c8_6 : decode cJxc12de_init_da8c8 6 = .ok (.putfield 7, 3) := by decide +kernel
theorem dJxc12de_init_da8c8_9 : decode cJxc12de_init_da8c8 9 = .ok (.return_, 1) := by decide +kernel
theorem dJx4a65c_init_da8c8_0 : decode cJx4a65c_init_da8c8 0 = .ok (.aload_n 0, 1) := by decide +kernel
theorem dJx4a65c_init_da8c8_1 : decode cJx4a65c_init_da8c8 1 = .ok (.invokespecial 1, 3) := by decide +kernel
theorem dJx4a65c_init_da8c8_4 : decode cJx4a65c_init_da8c8 4 = .ok (.aload_n 0, 1) := by decide +kernel
theorem dJx4a65c_init_da8c8_5 : decode cJx4a65c_init_da8c8 5 = .ok (.getstatic 39, 3) := by decide +kernel
theorem dJx4a65c_init_da8c8_8 : decode cJx4a65c_init_da8c8 8 = .ok (.putfield 9, 3) := by decide +kernel
theorem dJx4a65c_init_da8c8_11 : decode cJx4a65c_init_da8c8 11 = .ok (.return_, 1) := by decide +kernel
theorem dJx4a65c_grow_92f84_0 : decode cJx4a65c_grow_92f84 0 = .ok (.aload_n 0, 1) := by decide +kernel
theorem dJx4a65c_grow_92f84_1 : decode cJx4a65c_grow_92f84 1 = .ok (.getfield 9, 3) := by decide +kernel
theorem dJx4a65c_grow_92f84_4 : decode cJx4a65c_grow_92f84 4 = .ok (.arraylength, 1) := by decide +kernel
theorem dJx4a65c_grow_92f84_5 : decode cJx4a65c_grow_92f84 5 = .ok (.istore_n 2, 1) := by decide +kernel
theorem dJx4a65c_grow_92f84_6 : decode cJx4a65c_grow_92f84 6 = .ok (.iload_n 2, 1) := by decide +kernel
theorem dJx4a65c_grow_92f84_7 : decode cJx4a65c_grow_92f84 7 = .ok (.ifCond .gt 13, 3) := by decide +kernel
theorem dJx4a65c_grow_92f84_10 : decode cJx4a65c_grow_92f84 10 = .ok (.aload_n 0, 1) := by decide +kernel
theorem dJx4a65c_grow_92f84_11 : decode cJx4a65c_grow_92f84 11 = .ok (.getfield 9, 3) := by decide +kernel
theorem dJx4a65c_grow_92f84_14 : decode cJx4a65c_grow_92f84 14 = .ok (.getstatic 39, 3) := by decide +kernel
theorem dJx4a65c_grow_92f84_17 : decode cJx4a65c_grow_92f84 17 = .ok (.if_acmp .eq 28, 3) := by decide +kernel
theorem dJx4a65c_grow_92f84_20 : decode cJx4a65c_grow_92f84 20 = .ok (.iload_n 2, 1) := by decide +kernel
theorem dJx4a65c_grow_92f84_21 : decode cJx4a65c_grow_92f84 21 = .ok (.iload_n 1, 1) := by decide +kernel
theorem dJx4a65c_grow_92f84_22 : decode cJx4a65c_grow_92f84 22 = .ok (.iload_n 2, 1) := by decide +kernel
theorem dJx4a65c_grow_92f84_23 : decode cJx4a65c_grow_92f84 23 = .ok (.isub, 1) := by decide +kernel
theorem dJx4a65c_grow_92f84_24 : decode cJx4a65c_grow_92f84 24 = .ok (.iload_n 2, 1) := by decide +kernel
theorem dJx4a65c_grow_92f84_25 : decode cJx4a65c_grow_92f84 25 = .ok (.iconst 1, 1) := by decide +kernel
theorem dJx4a65c_grow_92f84_26 : decode cJx4a65c_grow_92f84 26 = .ok (.ishr, 1) := by decide +kernel
theorem dJx4a65c_grow_92f84_27 : decode cJx4a65c_grow_92f84 27 = .ok (.invokestatic 73, 3) := by decide +kernel
theorem dJx4a65c_grow_92f84_30 : decode cJx4a65c_grow_92f84 30 = .ok (.istore_n 3, 1) := by decide +kernel
theorem dJx4a65c_grow_92f84_31 : decode cJx4a65c_grow_92f84 31 = .ok (.aload_n 0, 1) := by decide +kernel
theorem dJx4a65c_grow_92f84_32 : decode cJx4a65c_grow_92f84 32 = .ok (.aload_n 0, 1) := by decide +kernel
theorem dJx4a65c_grow_92f84_33 : decode cJx4a65c_grow_92f84 33 = .ok (.getfield 9, 3) := by decide +kernel
theorem dJx4a65c_grow_92f84_36 : decode cJx4a65c_grow_92f84 36 = .ok (.iload_n 3, 1) := by decide +kernel
theorem dJx4a65c_grow_92f84_37 : decode cJx4a65c_grow_92f84 37 = .ok (.invokestatic 66, 3) := by decide +kernel
theorem dJx4a65c_grow_92f84_40 : decode cJx4a65c_grow_92f84 40 = .ok (.dup_x1, 1) := by decide +kernel
theorem dJx4a65c_grow_92f84_41 : decode cJx4a65c_grow_92f84 41 = .ok (.putfield 9, 3) := by decide +kernel
theorem dJx4a65c_grow_92f84_44 : decode cJx4a65c_grow_92f84 44 = .ok (.areturn, 1) := by decide +kernel
theorem dJx4a65c_grow_92f84_45 : decode cJx4a65c_grow_92f84 45 = .ok (.aload_n 0, 1) := by decide +kernel
theorem dJx4a65c_grow_92f84_46 : decode cJx4a65c_grow_92f84 46 = .ok (.bipush 10, 2) := by decide +kernel
theorem dJx4a65c_grow_92f84_48 : decode cJx4a65c_grow_92f84 48 = .ok (.iload_n 1, 1) := by decide +kernel
theorem dJx4a65c_grow_92f84_49 : decode cJx4a65c_grow_92f84 49 = .ok (.invokestatic 79, 3) := by decide +kernel
theorem dJx4a65c_grow_92f84_52 : decode cJx4a65c_grow_92f84 52 = .ok (.anewarray 7, 3) := by decide +kernel
theorem dJx4a65c_grow_92f84_55 : decode cJx4a65c_grow_92f84 55 = .ok (.dup_x1, 1) := by decide +kernel
theorem dJx4a65c_grow_92f84_56 : decode cJx4a65c_grow_92f84 56 = .ok (.putfield 9, 3) := by decide +kernel
theorem dJx4a65c_grow_92f84_59 : decode cJx4a65c_grow_92f84 59 = .ok (.areturn, 1) := by decide +kernel
theorem dJx4a65c_grow_d5877_0 : decode cJx4a65c_grow_d5877 0 = .ok (.aload_n 0, 1) := by decide +kernel
theorem dJx4a65c_grow_d5877_1 : decode cJx4a65c_grow_d5877 1 = .ok (.aload_n 0, 1) := by decide +kernel
theorem dJx4a65c_grow_d5877_2 : decode cJx4a65c_grow_d5877 2 = .ok (.getfield 48, 3) := by decide +kernel
theorem dJx4a65c_grow_d5877_5 : decode cJx4a65c_grow_d5877 5 = .ok (.iconst 1, 1) := by decide +kernel
theorem dJx4a65c_grow_d5877_6 : decode cJx4a65c_grow_d5877 6 = .ok (.iadd, 1) := by decide +kernel
theorem dJx4a65c_grow_d5877_7 : decode cJx4a65c_grow_d5877 7 = .ok (.invokevirtual 69, 3) := by decide +kernel
theorem dJx4a65c_grow_d5877_10 : decode cJx4a65c_grow_d5877 10 = .ok (.areturn, 1) := by decide +kernel
theorem dJx4a65c_size_8abf5_0 : decode cJx4a65c_size_8abf5 0 = .ok (.aload_n 0, 1) := by decide +kernel
theorem dJx4a65c_size_8abf5_1 : decode cJx4a65c_size_8abf5 1 = .ok (.getfield 48, 3) := by decide +kernel
theorem dJx4a65c_size_8abf5_4 : decode cJx4a65c_size_8abf5 4 = .ok (.ireturn, 1) := by decide +kernel
theorem dJx4a65c_elementData_915e3_0 : decode cJx4a65c_elementData_915e3 0 = .ok (.aload_n 0, 1) := by decide +kernel
theorem dJx4a65c_elementData_915e3_1 : decode cJx4a65c_elementData_915e3 1 = .ok (.getfield 9, 3) := by decide +kernel
theorem dJx4a65c_elementData_915e3_4 : decode cJx4a65c_elementData_915e3 4 = .ok (.iload_n 1, 1) := by decide +kernel
theorem dJx4a65c_elementData_915e3_5 : decode cJx4a65c_elementData_915e3 5 = .ok (.aaload, 1) := by decide +kernel
theorem dJx4a65c_elementData_915e3_6 : decode cJx4a65c_elementData_915e3 6 = .ok (.areturn, 1) := by decide +kernel
theorem dJx4a65c_get_915e3_0 : decode cJx4a65c_get_915e3 0 = .ok (.iload_n 1, 1) := by decide +kernel
theorem dJx4a65c_get_915e3_1 : decode cJx4a65c_get_915e3 1 = .ok (.aload_n 0, 1) := by decide +kernel
theorem dJx4a65c_get_915e3_2 : decode cJx4a65c_get_915e3 2 = .ok (.getfield 48, 3) := by decide +kernel
theorem dJx4a65c_get_915e3_5 : decode cJx4a65c_get_915e3 5 = .ok (.invokestatic 118, 3) := by decide +kernel
theorem dJx4a65c_get_915e3_8 : decode cJx4a65c_get_915e3 8 = .ok (.pop, 1) := by decide +kernel
theorem dJx4a65c_get_915e3_9 : decode cJx4a65c_get_915e3 9 = .ok (.aload_n 0, 1) := by decide +kernel
theorem dJx4a65c_get_915e3_10 : decode cJx4a65c_get_915e3 10 = .ok (.iload_n 1, 1) := by decide +kernel
theorem dJx4a65c_get_915e3_11 : decode cJx4a65c_get_915e3 11 = .ok (.invokevirtual 123, 3) := by decide +kernel
theorem dJx4a65c_get_915e3_14 : decode cJx4a65c_get_915e3 14 = .ok (.areturn, 1) := by decide +kernel
theorem dJx4a65c_add_72be8_0 : decode cJx4a65c_add_72be8 0 = .ok (.iload_n 3, 1) := by decide +kernel
theorem dJx4a65c_add_72be8_1 : decode cJx4a65c_add_72be8 1 = .ok (.aload_n 2, 1) := by decide +kernel
theorem dJx4a65c_add_72be8_2 : decode cJx4a65c_add_72be8 2 = .ok (.arraylength, 1) := by decide +kernel
theorem dJx4a65c_add_72be8_3 : decode cJx4a65c_add_72be8 3 = .ok (.if_icmp .ne 8, 3) := by decide +kernel
theorem dJx4a65c_add_72be8_6 : decode cJx4a65c_add_72be8 6 = .ok (.aload_n 0, 1) := by decide +kernel
theorem dJx4a65c_add_72be8_7 : decode cJx4a65c_add_72be8 7 = .ok (.invokevirtual 129, 3) := by decide +kernel
theorem dJx4a65c_add_72be8_10 : decode cJx4a65c_add_72be8 10 = .ok (.astore_n 2, 1) := by decide +kernel
theorem dJx4a65c_add_72be8_11 : decode cJx4a65c_add_72be8 11 = .ok (.aload_n 2, 1) := by decide +kernel
theorem dJx4a65c_add_72be8_12 : decode cJx4a65c_add_72be8 12 = .ok (.iload_n 3, 1) := by decide +kernel
theorem dJx4a65c_add_72be8_13 : decode cJx4a65c_add_72be8 13 = .ok (.aload_n 1, 1) := by decide +kernel
theorem dJx4a65c_add_72be8_14 : decode cJx4a65c_add_72be8 14 = .ok (.aastore, 1) := by decide +kernel
theorem dJx4a65c_add_72be8_15 : decode cJx4a65c_add_72be8 15 = .ok (.aload_n 0, 1) := by decide +kernel
theorem dJx4a65c_add_72be8_16 : decode cJx4a65c_add_72be8 16 = .ok (.iload_n 3, 1) := by decide +kernel
theorem dJx4a65c_add_72be8_17 : decode cJx4a65c_add_72be8 17 = .ok (.iconst 1, 1) := by decide +kernel
theorem dJx4a65c_add_72be8_18 : decode cJx4a65c_add_72be8 18 = .ok (.iadd, 1) := by decide +kernel
theorem dJx4a65c_add_72be8_19 : decode cJx4a65c_add_72be8 19 = .ok (.putfield 48, 3) := by decide +kernel
theorem dJx4a65c_add_72be8_22 : decode cJx4a65c_add_72be8 22 = .ok (.return_, 1) := by decide +kernel
theorem dJx4a65c_add_9ea2d_0 : decode cJx4a65c_add_9ea2d 0 = .ok (.aload_n 0, 1) := by decide +kernel
theorem dJx4a65c_add_9ea2d_1 : decode cJx4a65c_add_9ea2d 1 = .ok (.dup, 1) := by decide +kernel
theorem dJx4a65c_add_9ea2d_2 : decode cJx4a65c_add_9ea2d 2 = .ok (.getfield 63, 3) := by decide +kernel
theorem dJx4a65c_add_9ea2d_5 : decode cJx4a65c_add_9ea2d 5 = .ok (.iconst 1, 1) := by decide +kernel
theorem dJx4a65c_add_9ea2d_6 : decode cJx4a65c_add_9ea2d 6 = .ok (.iadd, 1) := by decide +kernel
theorem dJx4a65c_add_9ea2d_7 : decode cJx4a65c_add_9ea2d 7 = .ok (.putfield 63, 3) := by decide +kernel
theorem dJx4a65c_add_9ea2d_10 : decode cJx4a65c_add_9ea2d 10 = .ok (.aload_n 0, 1) := by decide +kernel
theorem dJx4a65c_add_9ea2d_11 : decode cJx4a65c_add_9ea2d 11 = .ok (.aload_n 1, 1) := by decide +kernel
theorem dJx4a65c_add_9ea2d_12 : decode cJx4a65c_add_9ea2d 12 = .ok (.aload_n 0, 1) := by decide +kernel
theorem dJx4a65c_add_9ea2d_13 : decode cJx4a65c_add_9ea2d 13 = .ok (.getfield 9, 3) := by decide +kernel
theorem dJx4a65c_add_9ea2d_16 : decode cJx4a65c_add_9ea2d 16 = .ok (.aload_n 0, 1) := by decide +kernel
theorem dJx4a65c_add_9ea2d_17 : decode cJx4a65c_add_9ea2d 17 = .ok (.getfield 48, 3) := by decide +kernel
theorem dJx4a65c_add_9ea2d_20 : decode cJx4a65c_add_9ea2d 20 = .ok (.invokevirtual 131, 3) := by decide +kernel
theorem dJx4a65c_add_9ea2d_23 : decode cJx4a65c_add_9ea2d 23 = .ok (.iconst 1, 1) := by decide +kernel
theorem dJx4a65c_add_9ea2d_24 : decode cJx4a65c_add_9ea2d 24 = .ok (.ireturn, 1) := by decide +kernel
theorem dJ7_fill_d0a16_0 : decode cJ7_fill_d0a16 0 = .ok (.iconst 0, 1) := by decide +kernel
theorem dJ7_fill_d0a16_1 : decode cJ7_fill_d0a16 1 = .ok (.istore_n 3, 1) := by decide +kernel
theorem dJ7_fill_d0a16_2 : decode cJ7_fill_d0a16 2 = .ok (.aload_n 0, 1) := by decide +kernel
theorem dJ7_fill_d0a16_3 : decode cJ7_fill_d0a16 3 = .ok (.arraylength, 1) := by decide +kernel
theorem dJ7_fill_d0a16_4 : decode cJ7_fill_d0a16 4 = .ok (.istore 4, 2) := by decide +kernel
theorem dJ7_fill_d0a16_6 : decode cJ7_fill_d0a16 6 = .ok (.iload_n 3, 1) := by decide +kernel
theorem dJ7_fill_d0a16_7 : decode cJ7_fill_d0a16 7 = .ok (.iload 4, 2) := by decide +kernel
theorem dJ7_fill_d0a16_9 : decode cJ7_fill_d0a16 9 = .ok (.if_icmp .ge 13, 3) := by decide +kernel
theorem dJ7_fill_d0a16_12 : decode cJ7_fill_d0a16 12 = .ok (.aload_n 0, 1) := by decide +kernel
theorem dJ7_fill_d0a16_13 : decode cJ7_fill_d0a16 13 = .ok (.iload_n 3, 1) := by decide +kernel
theorem dJ7_fill_d0a16_14 : decode cJ7_fill_d0a16 14 = .ok (.lload_n 1, 1) := by decide +kernel
theorem dJ7_fill_d0a16_15 : decode cJ7_fill_d0a16 15 = .ok (.lastore, 1) := by decide +kernel
theorem dJ7_fill_d0a16_16 : decode cJ7_fill_d0a16 16 = .ok (.iinc 3 1, 3) := by decide +kernel
theorem dJ7_fill_d0a16_19 : decode cJ7_fill_d0a16 19 = .ok (.goto (-13), 3) := by decide +kernel
theorem dJ7_fill_d0a16_22 : decode cJ7_fill_d0a16 22 = .ok (.return_, 1) := by decide +kernel
theorem dJ7_copyOf_1904c_0 : decode cJ7_copyOf_1904c 0 = .ok (.aload_n 0, 1) := by decide +kernel
theorem dJ7_copyOf_1904c_1 : decode cJ7_copyOf_1904c 1 = .ok (.iload_n 1, 1) := by decide +kernel
theorem dJ7_copyOf_1904c_2 : decode cJ7_copyOf_1904c 2 = .ok (.aload_n 0, 1) := by decide +kernel
theorem dJ7_copyOf_1904c_3 : decode cJ7_copyOf_1904c 3 = .ok (.invokevirtual 86, 3) := by decide +kernel
theorem dJ7_copyOf_1904c_6 : decode cJ7_copyOf_1904c 6 = .ok (.invokestatic 300, 3) := by decide +kernel
theorem dJ7_copyOf_1904c_9 : decode cJ7_copyOf_1904c 9 = .ok (.areturn, 1) := by decide +kernel
theorem dJ7_copyOf_6403c_0 : decode cJ7_copyOf_6403c 0 = .ok (.aload_n 2, 1) := by decide +kernel
theorem dJ7_copyOf_6403c_1 : decode cJ7_copyOf_6403c 1 = .ok (.ldc 110, 2) := by decide +kernel
theorem dJ7_copyOf_6403c_3 : decode cJ7_copyOf_6403c 3 = .ok (.if_acmp .ne 10, 3) := by decide +kernel
theorem dJ7_copyOf_6403c_6 : decode cJ7_copyOf_6403c 6 = .ok (.iload_n 1, 1) := by decide +kernel
theorem dJ7_copyOf_6403c_7 : decode cJ7_copyOf_6403c 7 = .ok (.anewarray 2, 3) := by decide +kernel
theorem dJ7_copyOf_6403c_10 : decode cJ7_copyOf_6403c 10 = .ok (.goto 14, 3) := by decide +kernel
theorem dJ7_copyOf_6403c_13 : decode cJ7_copyOf_6403c 13 = .ok (.aload_n 2, 1) := by decide +kernel
theorem dJ7_copyOf_6403c_14 : decode cJ7_copyOf_6403c 14 = .ok (.invokevirtual 90, 3) := by decide +kernel
theorem dJ7_copyOf_6403c_17 : decode cJ7_copyOf_6403c 17 = .ok (.iload_n 1, 1) := by decide +kernel
theorem dJ7_copyOf_6403c_18 : decode cJ7_copyOf_6403c 18 = .ok (.invokestatic 95, 3) := by decide +kernel
theorem dJ7_copyOf_6403c_21 : decode cJ7_copyOf_6403c 21 = .ok (.checkcast 110, 3) := by decide +kernel
theorem dJ7_copyOf_6403c_24 : decode cJ7_copyOf_6403c 24 = .ok (.astore_n 3, 1) := by decide +kernel
theorem dJ7_copyOf_6403c_25 : decode cJ7_copyOf_6403c 25 = .ok (.aload_n 0, 1) := by decide +kernel
theorem dJ7_copyOf_6403c_26 : decode cJ7_copyOf_6403c 26 = .ok (.iconst 0, 1) := by decide +kernel
theorem dJ7_copyOf_6403c_27 : decode cJ7_copyOf_6403c 27 = .ok (.aload_n 3, 1) := by decide +kernel
theorem dJ7_copyOf_6403c_28 : decode cJ7_copyOf_6403c 28 = .ok (.iconst 0, 1) := by decide +kernel
theorem dJ7_copyOf_6403c_29 : decode cJ7_copyOf_6403c 29 = .ok (.aload_n 0, 1) := by decide +kernel
theorem dJ7_copyOf_6403c_30 : decode cJ7_copyOf_6403c 30 = .ok (.arraylength, 1) := by decide +kernel
theorem dJ7_copyOf_6403c_31 : decode cJ7_copyOf_6403c 31 = .ok (.iload_n 1, 1) := by decide +kernel
theorem dJ7_copyOf_6403c_32 : decode cJ7_copyOf_6403c 32 = .ok (.invokestatic 304, 3) := by decide +kernel
theorem dJ7_copyOf_6403c_35 : decode cJ7_copyOf_6403c 35 = .ok (.invokestatic 150, 3) := by decide +kernel
theorem dJ7_copyOf_6403c_38 : decode cJ7_copyOf_6403c 38 = .ok (.aload_n 3, 1) := by decide +kernel
theorem dJ7_copyOf_6403c_39 : decode cJ7_copyOf_6403c 39 = .ok (.areturn, 1) := by decide +kernel
theorem dJ7_copyOf_59c91_0 : decode cJ7_copyOf_59c91 0 = .ok (.iload_n 1, 1) := by decide +kernel
theorem dJ7_copyOf_59c91_1 : decode cJ7_copyOf_59c91 1 = .ok (.aload_n 0, 1) := by decide +kernel
theorem dJ7_copyOf_59c91_2 : decode cJ7_copyOf_59c91 2 = .ok (.arraylength, 1) := by decide +kernel
theorem dJ7_copyOf_59c91_3 : decode cJ7_copyOf_59c91 3 = .ok (.if_icmp .ne 11, 3) := by decide +kernel
theorem dJ7_copyOf_59c91_6 : decode cJ7_copyOf_59c91 6 = .ok (.aload_n 0, 1) := by decide +kernel
theorem dJ7_copyOf_59c91_7 : decode cJ7_copyOf_59c91 7 = .ok (.invokevirtual 316, 3) := by decide +kernel
theorem dJ7_copyOf_59c91_10 : decode cJ7_copyOf_59c91 10 = .ok (.checkcast 317, 3) := by decide +kernel
theorem dJ7_copyOf_59c91_13 : decode cJ7_copyOf_59c91 13 = .ok (.areturn, 1) := by decide +kernel
theorem dJ7_copyOf_59c91_14 : decode cJ7_copyOf_59c91 14 = .ok (.iload_n 1, 1) := by decide +kernel
theorem dJ7_copyOf_59c91_15 : decode cJ7_copyOf_59c91 15 = .ok (.newarray .int, 2) := by decide +kernel
theorem dJ7_copyOf_59c91_17 : decode cJ7_copyOf_59c91 17 = .ok (.astore_n 2, 1) := by decide +kernel
theorem dJ7_copyOf_59c91_18 : decode cJ7_copyOf_59c91 18 = .ok (.aload_n 0, 1) := by decide +kernel
theorem dJ7_copyOf_59c91_19 : decode cJ7_copyOf_59c91 19 = .ok (.iconst 0, 1) := by decide +kernel
theorem dJ7_copyOf_59c91_20 : decode cJ7_copyOf_59c91 20 = .ok (.aload_n 2, 1) := by decide +kernel
theorem dJ7_copyOf_59c91_21 : decode cJ7_copyOf_59c91 21 = .ok (.iconst 0, 1) := by decide +kernel
theorem dJ7_copyOf_59c91_22 : decode cJ7_copyOf_59c91 22 = .ok (.aload_n 0, 1) := by decide +kernel
theorem dJ7_copyOf_59c91_23 : decode cJ7_copyOf_59c91 23 = .ok (.arraylength, 1) := by decide +kernel
theorem dJ7_copyOf_59c91_24 : decode cJ7_copyOf_59c91 24 = .ok (.iload_n 1, 1) := by decide +kernel
theorem dJ7_copyOf_59c91_25 : decode cJ7_copyOf_59c91 25 = .ok (.invokestatic 304, 3) := by decide +kernel
theorem dJ7_copyOf_59c91_28 : decode cJ7_copyOf_59c91 28 = .ok (.invokestatic 150, 3) := by decide +kernel
theorem dJ7_copyOf_59c91_31 : decode cJ7_copyOf_59c91 31 = .ok (.aload_n 2, 1) := by decide +kernel
theorem dJ7_copyOf_59c91_32 : decode cJ7_copyOf_59c91 32 = .ok (.areturn, 1) := by decide +kernel
theorem dJ15_checkIndex_7cf53_0 : decode cJ15_checkIndex_7cf53 0 = .ok (.iload_n 0, 1) := by decide +kernel
theorem dJ15_checkIndex_7cf53_1 : decode cJ15_checkIndex_7cf53 1 = .ok (.iload_n 1, 1) := by decide +kernel
theorem dJ15_checkIndex_7cf53_2 : decode cJ15_checkIndex_7cf53 2 = .ok (.aconst_null, 1) := by decide +kernel
theorem dJ15_checkIndex_7cf53_3 : decode cJ15_checkIndex_7cf53 3 = .ok (.invokestatic 105, 3) := by decide +kernel
theorem dJ15_checkIndex_7cf53_6 : decode cJ15_checkIndex_7cf53 6 = .ok (.ireturn, 1) := by decide +kernel
theorem dJ8_newLength_cabcc_0 : decode cJ8_newLength_cabcc 0 = .ok (.iload_n 0, 1) := by decide +kernel
theorem dJ8_newLength_cabcc_1 : decode cJ8_newLength_cabcc 1 = .ok (.iload_n 1, 1) := by decide +kernel
theorem dJ8_newLength_cabcc_2 : decode cJ8_newLength_cabcc 2 = .ok (.iload_n 2, 1) := by decide +kernel
theorem dJ8_newLength_cabcc_3 : decode cJ8_newLength_cabcc 3 = .ok (.invokestatic 194, 3) := by decide +kernel
theorem dJ8_newLength_cabcc_6 : decode cJ8_newLength_cabcc 6 = .ok (.iadd, 1) := by decide +kernel
theorem dJ8_newLength_cabcc_7 : decode cJ8_newLength_cabcc 7 = .ok (.istore_n 3, 1) := by decide +kernel
theorem dJ8_newLength_cabcc_8 : decode cJ8_newLength_cabcc 8 = .ok (.iconst 0, 1) := by decide +kernel
theorem dJ8_newLength_cabcc_9 : decode cJ8_newLength_cabcc 9 = .ok (.iload_n 3, 1) := by decide +kernel
theorem dJ8_newLength_cabcc_10 : decode cJ8_newLength_cabcc 10 = .ok (.if_icmp .ge 11, 3) := by decide +kernel
theorem dJ8_newLength_cabcc_13 : decode cJ8_newLength_cabcc 13 = .ok (.iload_n 3, 1) := by decide +kernel
theorem dJ8_newLength_cabcc_14 : decode cJ8_newLength_cabcc 14 = .ok (.ldc 200, 2) := by decide +kernel
theorem dJ8_newLength_cabcc_16 : decode cJ8_newLength_cabcc 16 = .ok (.if_icmp .gt 5, 3) := by decide +kernel
theorem dJ8_newLength_cabcc_19 : decode cJ8_newLength_cabcc 19 = .ok (.iload_n 3, 1) := by decide +kernel
theorem dJ8_newLength_cabcc_20 : decode cJ8_newLength_cabcc 20 = .ok (.ireturn, 1) := by decide +kernel
theorem dJ8_newLength_cabcc_21 : decode cJ8_newLength_cabcc 21 = .ok (.iload_n 0, 1) := by decide +kernel
theorem dJ8_newLength_cabcc_22 : decode cJ8_newLength_cabcc 22 = .ok (.iload_n 1, 1) := by decide +kernel
theorem dJ8_newLength_cabcc_23 : decode cJ8_newLength_cabcc 23 = .ok (.invokestatic 201, 3) := by decide +kernel
theorem dJ8_newLength_cabcc_26 : decode cJ8_newLength_cabcc 26 = .ok (.ireturn, 1) := by decide +kernel
theorem dJ8_hugeLength_7cf53_0 : decode cJ8_hugeLength_7cf53 0 = .ok (.iload_n 0, 1) := by decide +kernel
theorem dJ8_hugeLength_7cf53_1 : decode cJ8_hugeLength_7cf53 1 = .ok (.iload_n 1, 1) := by decide +kernel
theorem dJ8_hugeLength_7cf53_2 : decode cJ8_hugeLength_7cf53 2 = .ok (.iadd, 1) := by decide +kernel
theorem dJ8_hugeLength_7cf53_3 : decode cJ8_hugeLength_7cf53 3 = .ok (.istore_n 2, 1) := by decide +kernel
theorem dJ8_hugeLength_7cf53_4 : decode cJ8_hugeLength_7cf53 4 = .ok (.iload_n 2, 1) := by decide +kernel
theorem dJ8_hugeLength_7cf53_5 : decode cJ8_hugeLength_7cf53 5 = .ok (.ifCond .ge 44, 3) := by decide +kernel
theorem dJ8_hugeLength_7cf53_8 : decode cJ8_hugeLength_7cf53 8 = .ok (.new 204, 3) := by decide +kernel
theorem dJ8_hugeLength_7cf53_11 : decode cJ8_hugeLength_7cf53 11 = .ok (.dup, 1) := by decide +kernel
theorem dJ8_hugeLength_7cf53_12 : decode cJ8_hugeLength_7cf53 12 = .ok (.new 89, 3) := by decide +kernel
theorem dJ8_hugeLength_7cf53_15 : decode cJ8_hugeLength_7cf53 15 = .ok (.dup, 1) := by decide +kernel
theorem dJ8_hugeLength_7cf53_16 : decode cJ8_hugeLength_7cf53 16 = .ok (.invokespecial 91, 3) := by decide +kernel
theorem dJ8_hugeLength_7cf53_19 : decode cJ8_hugeLength_7cf53 19 = .ok (.ldc 206, 2) := by decide +kernel
theorem dJ8_hugeLength_7cf53_21 : decode cJ8_hugeLength_7cf53 21 = .ok (.invokevirtual 94, 3) := by decide +kernel
theorem dJ8_hugeLength_7cf53_24 : decode cJ8_hugeLength_7cf53 24 = .ok (.iload_n 0, 1) := by decide +kernel
theorem dJ8_hugeLength_7cf53_25 : decode cJ8_hugeLength_7cf53 25 = .ok (.invokevirtual 98, 3) := by decide +kernel
theorem dJ8_hugeLength_7cf53_28 : decode cJ8_hugeLength_7cf53 28 = .ok (.ldc 208, 2) := by decide +kernel
theorem dJ8_hugeLength_7cf53_30 : decode cJ8_hugeLength_7cf53 30 = .ok (.invokevirtual 94, 3) := by decide +kernel
theorem dJ8_hugeLength_7cf53_33 : decode cJ8_hugeLength_7cf53 33 = .ok (.iload_n 1, 1) := by decide +kernel
theorem dJ8_hugeLength_7cf53_34 : decode cJ8_hugeLength_7cf53 34 = .ok (.invokevirtual 98, 3) := by decide +kernel
theorem dJ8_hugeLength_7cf53_37 : decode cJ8_hugeLength_7cf53 37 = .ok (.ldc 210, 2) := by decide +kernel
theorem dJ8_hugeLength_7cf53_39 : decode cJ8_hugeLength_7cf53 39 = .ok (.invokevirtual 94, 3) := by decide +kernel
theorem dJ8_hugeLength_7cf53_42 : decode cJ8_hugeLength_7cf53 42 = .ok (.invokevirtual 101, 3) := by decide +kernel
theorem dJ8_hugeLength_7cf53_45 : decode cJ8_hugeLength_7cf53 45 = .ok (.invokespecial 212, 3) := by decide +kernel
theorem dJ8_hugeLength_7cf53_48 : decode cJ8_hugeLength_7cf53 48 = .ok (.athrow, 1) := by decide +kernel
theorem dJ8_hugeLength_7cf53_49 : decode cJ8_hugeLength_7cf53 49 = .ok (.iload_n 2, 1) := by decide +kernel
theorem dJ8_hugeLength_7cf53_50 : decode cJ8_hugeLength_7cf53 50 = .ok (.ldc 200, 2) := by decide +kernel
theorem dJ8_hugeLength_7cf53_52 : decode cJ8_hugeLength_7cf53 52 = .ok (.if_icmp .gt 6, 3) := by decide +kernel
theorem dJ8_hugeLength_7cf53_55 : decode cJ8_hugeLength_7cf53 55 = .ok (.ldc 200, 2) := by decide +kernel
theorem dJ8_hugeLength_7cf53_57 : decode cJ8_hugeLength_7cf53 57 = .ok (.ireturn, 1) := by decide +kernel
theorem dJ8_hugeLength_7cf53_58 : decode cJ8_hugeLength_7cf53 58 = .ok (.iload_n 2, 1) := by decide +kernel
theorem dJ8_hugeLength_7cf53_59 : decode cJ8_hugeLength_7cf53 59 = .ok (.ireturn, 1) := by decide +kernel
theorem dJ3_checkIndex_8e157_0 : decode cJ3_checkIndex_8e157 0 = .ok (.iload_n 0, 1) := by decide +kernel
theorem dJ3_checkIndex_8e157_1 : decode cJ3_checkIndex_8e157 1 = .ok (.ifCond .lt 8, 3) := by decide +kernel
theorem dJ3_checkIndex_8e157_4 : decode cJ3_checkIndex_8e157 4 = .ok (.iload_n 0, 1) := by decide +kernel
theorem dJ3_checkIndex_8e157_5 : decode cJ3_checkIndex_8e157 5 = .ok (.iload_n 1, 1) := by decide +kernel
theorem dJ3_checkIndex_8e157_6 : decode cJ3_checkIndex_8e157 6 = .ok (.if_icmp .lt 10, 3) := by decide +kernel
theorem dJ3_checkIndex_8e157_9 : decode cJ3_checkIndex_8e157 9 = .ok (.aload_n 2, 1) := by decide +kernel
theorem dJ3_checkIndex_8e157_10 : decode cJ3_checkIndex_8e157 10 = .ok (.iload_n 0, 1) := by decide +kernel
theorem dJ3_checkIndex_8e157_11 : decode cJ3_checkIndex_8e157 11 = .ok (.iload_n 1, 1) := by decide +kernel
theorem dJ3_checkIndex_8e157_12 : decode cJ3_checkIndex_8e157 12 = .ok (.invokestatic 95, 3) := by decide +kernel
theorem dJ3_checkIndex_8e157_15 : decode cJ3_checkIndex_8e157 15 = .ok (.athrow, 1) := by decide +kernel
theorem dJ3_checkIndex_8e157_16 : decode cJ3_checkIndex_8e157 16 = .ok (.iload_n 0, 1) := by decide +kernel
theorem dJ3_checkIndex_8e157_17 : decode cJ3_checkIndex_8e157 17 = .ok (.ireturn, 1) := by decide +kernel
theorem dJ3_checkFromToIndex_8c36e_0 : decode cJ3_checkFromToIndex_8c36e 0 = .ok (.iload_n 0, 1) := by decide +kernel
theorem dJ3_checkFromToIndex_8c36e_1 : decode cJ3_checkFromToIndex_8c36e 1 = .ok (.ifCond .lt 13, 3) := by decide +kernel
theorem dJ3_checkFromToIndex_8c36e_4 : decode cJ3_checkFromToIndex_8c36e 4 = .ok (.iload_n 0, 1) := by decide +kernel
theorem dJ3_checkFromToIndex_8c36e_5 : decode cJ3_checkFromToIndex_8c36e 5 = .ok (.iload_n 1, 1) := by decide +kernel
theorem dJ3_checkFromToIndex_8c36e_6 : decode cJ3_checkFromToIndex_8c36e 6 = .ok (.if_icmp .gt 8, 3) := by decide +kernel
theorem dJ3_checkFromToIndex_8c36e_9 : decode cJ3_checkFromToIndex_8c36e 9 = .ok (.iload_n 1, 1) := by decide +kernel
theorem dJ3_checkFromToIndex_8c36e_10 : decode cJ3_checkFromToIndex_8c36e 10 = .ok (.iload_n 2, 1) := by decide +kernel
theorem dJ3_checkFromToIndex_8c36e_11 : decode cJ3_checkFromToIndex_8c36e 11 = .ok (.if_icmp .le 11, 3) := by decide +kernel
theorem dJ3_checkFromToIndex_8c36e_14 : decode cJ3_checkFromToIndex_8c36e 14 = .ok (.aload_n 3, 1) := by decide +kernel
theorem dJ3_checkFromToIndex_8c36e_15 : decode cJ3_checkFromToIndex_8c36e 15 = .ok (.iload_n 0, 1) := by decide +kernel
theorem dJ3_checkFromToIndex_8c36e_16 : decode cJ3_checkFromToIndex_8c36e 16 = .ok (.iload_n 1, 1) := by decide +kernel
theorem dJ3_checkFromToIndex_8c36e_17 : decode cJ3_checkFromToIndex_8c36e 17 = .ok (.iload_n 2, 1) := by decide +kernel
theorem dJ3_checkFromToIndex_8c36e_18 : decode cJ3_checkFromToIndex_8c36e 18 = .ok (.invokestatic 99, 3) := by decide +kernel
theorem dJ3_checkFromToIndex_8c36e_21 : decode cJ3_checkFromToIndex_8c36e 21 = .ok (.athrow, 1) := by decide +kernel
theorem dJ3_checkFromToIndex_8c36e_22 : decode cJ3_checkFromToIndex_8c36e 22 = .ok (.iload_n 0, 1) := by decide +kernel
theorem dJ3_checkFromToIndex_8c36e_23 : decode cJ3_checkFromToIndex_8c36e 23 = .ok (.ireturn, 1) := by decide +kernel
theorem dL_value_0 : decode cL_value 0 = .ok (.aload_n 3, 1) := by decide +kernel
theorem dL_value_1 : decode cL_value 1 = .ok (.iconst 0, 1) := by decide +kernel
theorem dL_value_2 : decode cL_value 2 = .ok (.aload_n 0, 1) := by decide +kernel
theorem dL_value_3 : decode cL_value 3 = .ok (.iload_n 1, 1) := by decide +kernel
theorem dL_value_4 : decode cL_value 4 = .ok (.iload_n 2, 1) := by decide +kernel
theorem dL_value_5 : decode cL_value 5 = .ok (.invokevirtual 7, 3) := by decide +kernel
theorem dL_value_8 : decode cL_value 8 = .ok (.i2l, 1) := by decide +kernel
theorem dL_value_9 : decode cL_value 9 = .ok (.lastore, 1) := by decide +kernel
theorem dL_value_10 : decode cL_value 10 = .ok (.goto 7, 3) := by decide +kernel
theorem dL_value_13 : decode cL_value 13 = .ok (.astore 4, 2) := by decide +kernel
theorem dL_value_15 : decode cL_value 15 = .ok (.iconst 1, 1) := by decide +kernel
theorem dL_value_16 : decode cL_value 16 = .ok (.ireturn, 1) := by decide +kernel
theorem dL_value_17 : decode cL_value 17 = .ok (.iconst 0, 1) := by decide +kernel
theorem dL_value_18 : decode cL_value 18 = .ok (.ireturn, 1) := by decide +kernel
theorem dL_law_0 : decode cL_law 0 = .ok (.new 8, 3) := by decide +kernel
theorem dL_law_3 : decode cL_law 3 = .ok (.dup, 1) := by decide +kernel
theorem dL_law_4 : decode cL_law 4 = .ok (.invokespecial 15, 3) := by decide +kernel
theorem dL_law_7 : decode cL_law 7 = .ok (.astore_n 1, 1) := by decide +kernel
theorem dL_law_8 : decode cL_law 8 = .ok (.new 16, 3) := by decide +kernel
theorem dL_law_11 : decode cL_law 11 = .ok (.dup, 1) := by decide +kernel
theorem dL_law_12 : decode cL_law 12 = .ok (.invokespecial 18, 3) := by decide +kernel
theorem dL_law_15 : decode cL_law 15 = .ok (.astore_n 2, 1) := by decide +kernel
theorem dL_law_16 : decode cL_law 16 = .ok (.iconst 1, 1) := by decide +kernel
theorem dL_law_17 : decode cL_law 17 = .ok (.newarray .long, 2) := by decide +kernel
theorem dL_law_19 : decode cL_law 19 = .ok (.astore_n 3, 1) := by decide +kernel
theorem dL_law_20 : decode cL_law 20 = .ok (.iconst 0, 1) := by decide +kernel
theorem dL_law_21 : decode cL_law 21 = .ok (.istore 4, 2) := by decide +kernel
theorem dL_law_23 : decode cL_law 23 = .ok (.iload 4, 2) := by decide +kernel
theorem dL_law_25 : decode cL_law 25 = .ok (.aload_n 0, 1) := by decide +kernel
theorem dL_law_26 : decode cL_law 26 = .ok (.arraylength, 1) := by decide +kernel
theorem dL_law_27 : decode cL_law 27 = .ok (.bipush 6, 2) := by decide +kernel
theorem dL_law_29 : decode cL_law 29 = .ok (.isub, 1) := by decide +kernel
theorem dL_law_30 : decode cL_law 30 = .ok (.if_icmp .gt 1788, 3) := by decide +kernel
theorem dL_law_33 : decode cL_law 33 = .ok (.aload_n 0, 1) := by decide +kernel
theorem dL_law_34 : decode cL_law 34 = .ok (.iload 4, 2) := by decide +kernel
theorem dL_law_36 : decode cL_law 36 = .ok (.iaload, 1) := by decide +kernel
theorem dL_law_37 : decode cL_law 37 = .ok (.bipush 63, 2) := by decide +kernel
theorem dL_law_39 : decode cL_law 39 = .ok (.iand, 1) := by decide +kernel
theorem dL_law_40 : decode cL_law 40 = .ok (.tableswitch 1772 0 38 #[172, 245, 270, 295, 308, 345, 382, 407, 420, 457, 494, 519, 556, 569, 582, 643, 724, 761, 786, 854, 879, 916, 953, 1002, 1040, 1078, 1115, 1164, 1201, 1250, 1327, 1364, 1401, 1450, 1543, 1612, 1661, 1710, 1747], 172) := by decide +kernel
theorem dL_law_212 : decode cL_law 212 = .ok (.aload_n 1, 1) := by decide +kernel
theorem dL_law_213 : decode cL_law 213 = .ok (.aload_n 0, 1) := by decide +kernel
theorem dL_law_214 : decode cL_law 214 = .ok (.iload 4, 2) := by decide +kernel
theorem dL_law_216 : decode cL_law 216 = .ok (.iconst 1, 1) := by decide +kernel
theorem dL_law_217 : decode cL_law 217 = .ok (.iadd, 1) := by decide +kernel
theorem dL_law_218 : decode cL_law 218 = .ok (.iaload, 1) := by decide +kernel
theorem dL_law_219 : decode cL_law 219 = .ok (.aload_n 0, 1) := by decide +kernel
theorem dL_law_220 : decode cL_law 220 = .ok (.iload 4, 2) := by decide +kernel
theorem dL_law_222 : decode cL_law 222 = .ok (.iconst 2, 1) := by decide +kernel
theorem dL_law_223 : decode cL_law 223 = .ok (.iadd, 1) := by decide +kernel
theorem dL_law_224 : decode cL_law 224 = .ok (.iaload, 1) := by decide +kernel
theorem dL_law_225 : decode cL_law 225 = .ok (.aload_n 0, 1) := by decide +kernel
theorem dL_law_226 : decode cL_law 226 = .ok (.iload 4, 2) := by decide +kernel
theorem dL_law_228 : decode cL_law 228 = .ok (.iconst 3, 1) := by decide +kernel
theorem dL_law_229 : decode cL_law 229 = .ok (.iadd, 1) := by decide +kernel
theorem dL_law_230 : decode cL_law 230 = .ok (.iaload, 1) := by decide +kernel
theorem dL_law_231 : decode cL_law 231 = .ok (.aload_n 0, 1) := by decide +kernel
theorem dL_law_232 : decode cL_law 232 = .ok (.iload 4, 2) := by decide +kernel
theorem dL_law_234 : decode cL_law 234 = .ok (.iconst 4, 1) := by decide +kernel
theorem dL_law_235 : decode cL_law 235 = .ok (.iadd, 1) := by decide +kernel
theorem dL_law_236 : decode cL_law 236 = .ok (.iaload, 1) := by decide +kernel
theorem dL_law_237 : decode cL_law 237 = .ok (.aload_n 0, 1) := by decide +kernel
theorem dL_law_238 : decode cL_law 238 = .ok (.iload 4, 2) := by decide +kernel
theorem dL_law_240 : decode cL_law 240 = .ok (.iconst 5, 1) := by decide +kernel
theorem dL_law_241 : decode cL_law 241 = .ok (.iadd, 1) := by decide +kernel
theorem dL_law_242 : decode cL_law 242 = .ok (.iaload, 1) := by decide +kernel
theorem dL_law_243 : decode cL_law 243 = .ok (.invokevirtual 19, 3) := by decide +kernel
theorem dL_law_246 : decode cL_law 246 = .ok (.aload_n 2, 1) := by decide +kernel
theorem dL_law_247 : decode cL_law 247 = .ok (.aload_n 0, 1) := by decide +kernel
theorem dL_law_248 : decode cL_law 248 = .ok (.iload 4, 2) := by decide +kernel
theorem dL_law_250 : decode cL_law 250 = .ok (.iconst 1, 1) := by decide +kernel
theorem dL_law_251 : decode cL_law 251 = .ok (.iadd, 1) := by decide +kernel
theorem dL_law_252 : decode cL_law 252 = .ok (.iaload, 1) := by decide +kernel
theorem dL_law_253 : decode cL_law 253 = .ok (.aload_n 0, 1) := by decide +kernel
theorem dL_law_254 : decode cL_law 254 = .ok (.iload 4, 2) := by decide +kernel
theorem dL_law_256 : decode cL_law 256 = .ok (.iconst 2, 1) := by decide +kernel
theorem dL_law_257 : decode cL_law 257 = .ok (.iadd, 1) := by decide +kernel
theorem dL_law_258 : decode cL_law 258 = .ok (.iaload, 1) := by decide +kernel
theorem dL_law_259 : decode cL_law 259 = .ok (.aload_n 0, 1) := by decide +kernel
theorem dL_law_260 : decode cL_law 260 = .ok (.iload 4, 2) := by decide +kernel
theorem dL_law_262 : decode cL_law 262 = .ok (.iconst 3, 1) := by decide +kernel
theorem dL_law_263 : decode cL_law 263 = .ok (.iadd, 1) := by decide +kernel
theorem dL_law_264 : decode cL_law 264 = .ok (.iaload, 1) := by decide +kernel
theorem dL_law_265 : decode cL_law 265 = .ok (.aload_n 0, 1) := by decide +kernel
theorem dL_law_266 : decode cL_law 266 = .ok (.iload 4, 2) := by decide +kernel
theorem dL_law_268 : decode cL_law 268 = .ok (.iconst 4, 1) := by decide +kernel
theorem dL_law_269 : decode cL_law 269 = .ok (.iadd, 1) := by decide +kernel
theorem dL_law_270 : decode cL_law 270 = .ok (.iaload, 1) := by decide +kernel
theorem dL_law_271 : decode cL_law 271 = .ok (.aload_n 0, 1) := by decide +kernel
theorem dL_law_272 : decode cL_law 272 = .ok (.iload 4, 2) := by decide +kernel
theorem dL_law_274 : decode cL_law 274 = .ok (.iconst 5, 1) := by decide +kernel
theorem dL_law_275 : decode cL_law 275 = .ok (.iadd, 1) := by decide +kernel
theorem dL_law_276 : decode cL_law 276 = .ok (.iaload, 1) := by decide +kernel
theorem dL_law_277 : decode cL_law 277 = .ok (.invokevirtual 23, 3) := by decide +kernel
theorem dL_law_280 : decode cL_law 280 = .ok (.if_icmp .eq 1532, 3) := by decide +kernel
theorem dL_law_283 : decode cL_law 283 = .ok (.iconst 0, 1) := by decide +kernel
theorem dL_law_284 : decode cL_law 284 = .ok (.ireturn, 1) := by decide +kernel
theorem dL_law_285 : decode cL_law 285 = .ok (.aload_n 1, 1) := by decide +kernel
theorem dL_law_286 : decode cL_law 286 = .ok (.aload_n 0, 1) := by decide +kernel
theorem dL_law_287 : decode cL_law 287 = .ok (.iload 4, 2) := by decide +kernel
theorem dL_law_289 : decode cL_law 289 = .ok (.iconst 1, 1) := by decide +kernel
theorem dL_law_290 : decode cL_law 290 = .ok (.iadd, 1) := by decide +kernel
theorem dL_law_291 : decode cL_law 291 = .ok (.iaload, 1) := by decide +kernel
theorem dL_law_292 : decode cL_law 292 = .ok (.invokevirtual 24, 3) := by decide +kernel
theorem dL_law_295 : decode cL_law 295 = .ok (.aload_n 2, 1) := by decide +kernel
theorem dL_law_296 : decode cL_law 296 = .ok (.aload_n 0, 1) := by decide +kernel
theorem dL_law_297 : decode cL_law 297 = .ok (.iload 4, 2) := by decide +kernel
theorem dL_law_299 : decode cL_law 299 = .ok (.iconst 1, 1) := by decide +kernel
theorem dL_law_300 : decode cL_law 300 = .ok (.iadd, 1) := by decide +kernel
theorem dL_law_301 : decode cL_law 301 = .ok (.iaload, 1) := by decide +kernel
theorem dL_law_302 : decode cL_law 302 = .ok (.invokevirtual 28, 3) := by decide +kernel
theorem dL_law_305 : decode cL_law 305 = .ok (.if_icmp .eq 1507, 3) := by decide +kernel
theorem dL_law_308 : decode cL_law 308 = .ok (.iconst 0, 1) := by decide +kernel
theorem dL_law_309 : decode cL_law 309 = .ok (.ireturn, 1) := by decide +kernel
theorem dL_law_310 : decode cL_law 310 = .ok (.aload_n 1, 1) := by decide +kernel
theorem dL_law_311 : decode cL_law 311 = .ok (.aload_n 0, 1) := by decide +kernel
theorem dL_law_312 : decode cL_law 312 = .ok (.iload 4, 2) := by decide +kernel
theorem dL_law_314 : decode cL_law 314 = .ok (.iconst 1, 1) := by decide +kernel
theorem dL_law_315 : decode cL_law 315 = .ok (.iadd, 1) := by decide +kernel
theorem dL_law_316 : decode cL_law 316 = .ok (.iaload, 1) := by decide +kernel
theorem dL_law_317 : decode cL_law 317 = .ok (.invokevirtual 29, 3) := by decide +kernel
theorem dL_law_320 : decode cL_law 320 = .ok (.aload_n 2, 1) := by decide +kernel
theorem dL_law_321 : decode cL_law 321 = .ok (.aload_n 0, 1) := by decide +kernel
theorem dL_law_322 : decode cL_law 322 = .ok (.iload 4, 2) := by decide +kernel
theorem dL_law_324 : decode cL_law 324 = .ok (.iconst 1, 1) := by decide +kernel
theorem dL_law_325 : decode cL_law 325 = .ok (.iadd, 1) := by decide +kernel
theorem dL_law_326 : decode cL_law 326 = .ok (.iaload, 1) := by decide +kernel
theorem dL_law_327 : decode cL_law 327 = .ok (.invokevirtual 33, 3) := by decide +kernel
theorem dL_law_330 : decode cL_law 330 = .ok (.if_icmp .eq 1482, 3) := by decide +kernel
theorem dL_law_333 : decode cL_law 333 = .ok (.iconst 0, 1) := by decide +kernel
theorem dL_law_334 : decode cL_law 334 = .ok (.ireturn, 1) := by decide +kernel
theorem dL_law_335 : decode cL_law 335 = .ok (.aload_n 1, 1) := by decide +kernel
theorem dL_law_336 : decode cL_law 336 = .ok (.invokevirtual 34, 3) := by decide +kernel
theorem dL_law_339 : decode cL_law 339 = .ok (.aload_n 2, 1) := by decide +kernel
theorem dL_law_340 : decode cL_law 340 = .ok (.invokevirtual 38, 3) := by decide +kernel
theorem dL_law_343 : decode cL_law 343 = .ok (.if_icmp .eq 1469, 3) := by decide +kernel
theorem dL_law_346 : decode cL_law 346 = .ok (.iconst 0, 1) := by decide +kernel
theorem dL_law_347 : decode cL_law 347 = .ok (.ireturn, 1) := by decide +kernel
theorem dL_law_348 : decode cL_law 348 = .ok (.aload_n 1, 1) := by decide +kernel
theorem dL_law_349 : decode cL_law 349 = .ok (.aload_n 0, 1) := by decide +kernel
theorem dL_law_350 : decode cL_law 350 = .ok (.iload 4, 2) := by decide +kernel
theorem dL_law_352 : decode cL_law 352 = .ok (.iconst 1, 1) := by decide +kernel
theorem dL_law_353 : decode cL_law 353 = .ok (.iadd, 1) := by decide +kernel
theorem dL_law_354 : decode cL_law 354 = .ok (.iaload, 1) := by decide +kernel
theorem dL_law_355 : decode cL_law 355 = .ok (.aload_n 0, 1) := by decide +kernel
theorem dL_law_356 : decode cL_law 356 = .ok (.iload 4, 2) := by decide +kernel
theorem dL_law_358 : decode cL_law 358 = .ok (.iconst 2, 1) := by decide +kernel
theorem dL_law_359 : decode cL_law 359 = .ok (.iadd, 1) := by decide +kernel
theorem dL_law_360 : decode cL_law 360 = .ok (.iaload, 1) := by decide +kernel
theorem dL_law_361 : decode cL_law 361 = .ok (.invokevirtual 39, 3) := by decide +kernel
theorem dL_law_364 : decode cL_law 364 = .ok (.aload_n 2, 1) := by decide +kernel
theorem dL_law_365 : decode cL_law 365 = .ok (.aload_n 0, 1) := by decide +kernel
theorem dL_law_366 : decode cL_law 366 = .ok (.iload 4, 2) := by decide +kernel
theorem dL_law_368 : decode cL_law 368 = .ok (.iconst 1, 1) := by decide +kernel
theorem dL_law_369 : decode cL_law 369 = .ok (.iadd, 1) := by decide +kernel
theorem dL_law_370 : decode cL_law 370 = .ok (.iaload, 1) := by decide +kernel
theorem dL_law_371 : decode cL_law 371 = .ok (.aload_n 0, 1) := by decide +kernel
theorem dL_law_372 : decode cL_law 372 = .ok (.iload 4, 2) := by decide +kernel
theorem dL_law_374 : decode cL_law 374 = .ok (.iconst 2, 1) := by decide +kernel
theorem dL_law_375 : decode cL_law 375 = .ok (.iadd, 1) := by decide +kernel
theorem dL_law_376 : decode cL_law 376 = .ok (.iaload, 1) := by decide +kernel
theorem dL_law_377 : decode cL_law 377 = .ok (.invokevirtual 42, 3) := by decide +kernel
theorem dL_law_380 : decode cL_law 380 = .ok (.if_icmp .eq 1432, 3) := by decide +kernel
theorem dL_law_383 : decode cL_law 383 = .ok (.iconst 0, 1) := by decide +kernel
theorem dL_law_384 : decode cL_law 384 = .ok (.ireturn, 1) := by decide +kernel
theorem dL_law_385 : decode cL_law 385 = .ok (.aload_n 1, 1) := by decide +kernel
theorem dL_law_386 : decode cL_law 386 = .ok (.aload_n 0, 1) := by decide +kernel
theorem dL_law_387 : decode cL_law 387 = .ok (.iload 4, 2) := by decide +kernel
theorem dL_law_389 : decode cL_law 389 = .ok (.iconst 1, 1) := by decide +kernel
theorem dL_law_390 : decode cL_law 390 = .ok (.iadd, 1) := by decide +kernel
theorem dL_law_391 : decode cL_law 391 = .ok (.iaload, 1) := by decide +kernel
theorem dL_law_392 : decode cL_law 392 = .ok (.aload_n 0, 1) := by decide +kernel
theorem dL_law_393 : decode cL_law 393 = .ok (.iload 4, 2) := by decide +kernel
theorem dL_law_395 : decode cL_law 395 = .ok (.iconst 2, 1) := by decide +kernel
theorem dL_law_396 : decode cL_law 396 = .ok (.iadd, 1) := by decide +kernel
theorem dL_law_397 : decode cL_law 397 = .ok (.iaload, 1) := by decide +kernel
theorem dL_law_398 : decode cL_law 398 = .ok (.invokevirtual 43, 3) := by decide +kernel
theorem dL_law_401 : decode cL_law 401 = .ok (.aload_n 2, 1) := by decide +kernel
theorem dL_law_402 : decode cL_law 402 = .ok (.aload_n 0, 1) := by decide +kernel
theorem dL_law_403 : decode cL_law 403 = .ok (.iload 4, 2) := by decide +kernel
theorem dL_law_405 : decode cL_law 405 = .ok (.iconst 1, 1) := by decide +kernel
theorem dL_law_406 : decode cL_law 406 = .ok (.iadd, 1) := by decide +kernel
theorem dL_law_407 : decode cL_law 407 = .ok (.iaload, 1) := by decide +kernel
theorem dL_law_408 : decode cL_law 408 = .ok (.aload_n 0, 1) := by decide +kernel
theorem dL_law_409 : decode cL_law 409 = .ok (.iload 4, 2) := by decide +kernel
theorem dL_law_411 : decode cL_law 411 = .ok (.iconst 2, 1) := by decide +kernel
theorem dL_law_412 : decode cL_law 412 = .ok (.iadd, 1) := by decide +kernel
theorem dL_law_413 : decode cL_law 413 = .ok (.iaload, 1) := by decide +kernel
theorem dL_law_414 : decode cL_law 414 = .ok (.invokevirtual 46, 3) := by decide +kernel
theorem dL_law_417 : decode cL_law 417 = .ok (.if_icmp .eq 1395, 3) := by decide +kernel
theorem dL_law_420 : decode cL_law 420 = .ok (.iconst 0, 1) := by decide +kernel
theorem dL_law_421 : decode cL_law 421 = .ok (.ireturn, 1) := by decide +kernel
theorem dL_law_422 : decode cL_law 422 = .ok (.aload_n 1, 1) := by decide +kernel
theorem dL_law_423 : decode cL_law 423 = .ok (.aload_n 0, 1) := by decide +kernel
theorem dL_law_424 : decode cL_law 424 = .ok (.iload 4, 2) := by decide +kernel
theorem dL_law_426 : decode cL_law 426 = .ok (.iconst 1, 1) := by decide +kernel
theorem dL_law_427 : decode cL_law 427 = .ok (.iadd, 1) := by decide +kernel
theorem dL_law_428 : decode cL_law 428 = .ok (.iaload, 1) := by decide +kernel
theorem dL_law_429 : decode cL_law 429 = .ok (.invokevirtual 47, 3) := by decide +kernel
theorem dL_law_432 : decode cL_law 432 = .ok (.aload_n 2, 1) := by decide +kernel
theorem dL_law_433 : decode cL_law 433 = .ok (.aload_n 0, 1) := by decide +kernel
theorem dL_law_434 : decode cL_law 434 = .ok (.iload 4, 2) := by decide +kernel
theorem dL_law_436 : decode cL_law 436 = .ok (.iconst 1, 1) := by decide +kernel
theorem dL_law_437 : decode cL_law 437 = .ok (.iadd, 1) := by decide +kernel
theorem dL_law_438 : decode cL_law 438 = .ok (.iaload, 1) := by decide +kernel
theorem dL_law_439 : decode cL_law 439 = .ok (.invokevirtual 50, 3) := by decide +kernel
theorem dL_law_442 : decode cL_law 442 = .ok (.if_icmp .eq 1370, 3) := by decide +kernel
theorem dL_law_445 : decode cL_law 445 = .ok (.iconst 0, 1) := by decide +kernel
theorem dL_law_446 : decode cL_law 446 = .ok (.ireturn, 1) := by decide +kernel
theorem dL_law_447 : decode cL_law 447 = .ok (.aload_n 1, 1) := by decide +kernel
theorem dL_law_448 : decode cL_law 448 = .ok (.invokevirtual 51, 3) := by decide +kernel
theorem dL_law_451 : decode cL_law 451 = .ok (.aload_n 2, 1) := by decide +kernel
theorem dL_law_452 : decode cL_law 452 = .ok (.invokevirtual 54, 3) := by decide +kernel
theorem dL_law_455 : decode cL_law 455 = .ok (.if_icmp .eq 1357, 3) := by decide +kernel
theorem dL_law_458 : decode cL_law 458 = .ok (.iconst 0, 1) := by decide +kernel
theorem dL_law_459 : decode cL_law 459 = .ok (.ireturn, 1) := by decide +kernel
theorem dL_law_460 : decode cL_law 460 = .ok (.aload_n 1, 1) := by decide +kernel
theorem dL_law_461 : decode cL_law 461 = .ok (.aload_n 0, 1) := by decide +kernel
theorem dL_law_462 : decode cL_law 462 = .ok (.iload 4, 2) := by decide +kernel
theorem dL_law_464 : decode cL_law 464 = .ok (.iconst 1, 1) := by decide +kernel
theorem dL_law_465 : decode cL_law 465 = .ok (.iadd, 1) := by decide +kernel
