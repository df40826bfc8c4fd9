theorem dX12_speaks_181 : decode cX12_speaks 181 = .ok (.iload_n 2, 1) := by decide +kernel
theorem dX12_speaks_182 : decode cX12_speaks 182 = .ok (.imul, 1) := by decide +kernel
theorem dX12_speaks_183 : decode cX12_speaks 183 = .ok (.iload 10, 2) := by decide +kernel
theorem dX12_speaks_185 : decode cX12_speaks 185 = .ok (.iadd, 1) := by decide +kernel
theorem dX12_speaks_186 : decode cX12_speaks 186 = .ok (.aload_n 0, 1) := by decide +kernel
theorem dX12_speaks_187 : decode cX12_speaks 187 = .ok (.bipush 12, 2) := by decide +kernel
theorem dX12_speaks_189 : decode cX12_speaks 189 = .ok (.aload_n 0, 1) := by decide +kernel
theorem dX12_speaks_190 : decode cX12_speaks 190 = .ok (.getfield 74, 3) := by decide +kernel
theorem dX12_speaks_193 : decode cX12_speaks 193 = .ok (.iload_n 1, 1) := by decide +kernel
theorem dX12_speaks_194 : decode cX12_speaks 194 = .ok (.iaload, 1) := by decide +kernel
theorem dX12_speaks_195 : decode cX12_speaks 195 = .ok (.iadd, 1) := by decide +kernel
theorem dX12_speaks_196 : decode cX12_speaks 196 = .ok (.iconst 1, 1) := by decide +kernel
theorem dX12_speaks_197 : decode cX12_speaks 197 = .ok (.bipush 118, 2) := by decide +kernel
theorem dX12_speaks_199 : decode cX12_speaks 199 = .ok (.invokevirtual 322, 3) := by decide +kernel
theorem dX12_speaks_202 : decode cX12_speaks 202 = .ok (.iload 7, 2) := by decide +kernel
theorem dX12_speaks_204 : decode cX12_speaks 204 = .ok (.i2l, 1) := by decide +kernel
theorem dX12_speaks_205 : decode cX12_speaks 205 = .ok (.invokestatic 180, 3) := by decide +kernel
theorem dX12_speaks_208 : decode cX12_speaks 208 = .ok (.lastore, 1) := by decide +kernel
theorem dX12_speaks_209 : decode cX12_speaks 209 = .ok (.iinc 10 1, 3) := by decide +kernel
theorem dX12_speaks_212 : decode cX12_speaks 212 = .ok (.goto (-172), 3) := by decide +kernel
theorem dX12_speaks_215 : decode cX12_speaks 215 = .ok (.return_, 1) := by decide +kernel
theorem dX12_sumsUp_0 : decode cX12_sumsUp 0 = .ok (.aload_n 0, 1) := by decide +kernel
theorem dX12_sumsUp_1 : decode cX12_sumsUp 1 = .ok (.getfield 26, 3) := by decide +kernel
theorem dX12_sumsUp_4 : decode cX12_sumsUp 4 = .ok (.bipush 6, 2) := by decide +kernel
theorem dX12_sumsUp_6 : decode cX12_sumsUp 6 = .ok (.aload_n 0, 1) := by decide +kernel
theorem dX12_sumsUp_7 : decode cX12_sumsUp 7 = .ok (.getfield 65, 3) := by decide +kernel
theorem dX12_sumsUp_10 : decode cX12_sumsUp 10 = .ok (.iload_n 1, 1) := by decide +kernel
theorem dX12_sumsUp_11 : decode cX12_sumsUp 11 = .ok (.iaload, 1) := by decide +kernel
theorem dX12_sumsUp_12 : decode cX12_sumsUp 12 = .ok (.imul, 1) := by decide +kernel
theorem dX12_sumsUp_13 : decode cX12_sumsUp 13 = .ok (.iload_n 2, 1) := by decide +kernel
theorem dX12_sumsUp_14 : decode cX12_sumsUp 14 = .ok (.iadd, 1) := by decide +kernel
theorem dX12_sumsUp_15 : decode cX12_sumsUp 15 = .ok (.iaload, 1) := by decide +kernel
theorem dX12_sumsUp_16 : decode cX12_sumsUp 16 = .ok (.istore 5, 2) := by decide +kernel
theorem dX12_sumsUp_18 : decode cX12_sumsUp 18 = .ok (.aload_n 0, 1) := by decide +kernel
theorem dX12_sumsUp_19 : decode cX12_sumsUp 19 = .ok (.getfield 80, 3) := by decide +kernel
theorem dX12_sumsUp_22 : decode cX12_sumsUp 22 = .ok (.sipush 201, 3) := by decide +kernel
theorem dX12_sumsUp_25 : decode cX12_sumsUp 25 = .ok (.iload_n 2, 1) := by decide +kernel
theorem dX12_sumsUp_26 : decode cX12_sumsUp 26 = .ok (.imul, 1) := by decide +kernel
theorem dX12_sumsUp_27 : decode cX12_sumsUp 27 = .ok (.laload, 1) := by decide +kernel
theorem dX12_sumsUp_28 : decode cX12_sumsUp 28 = .ok (.aload_n 0, 1) := by decide +kernel
theorem dX12_sumsUp_29 : decode cX12_sumsUp 29 = .ok (.getfield 80, 3) := by decide +kernel
theorem dX12_sumsUp_32 : decode cX12_sumsUp 32 = .ok (.sipush 201, 3) := by decide +kernel
theorem dX12_sumsUp_35 : decode cX12_sumsUp 35 = .ok (.iload_n 2, 1) := by decide +kernel
theorem dX12_sumsUp_36 : decode cX12_sumsUp 36 = .ok (.imul, 1) := by decide +kernel
theorem dX12_sumsUp_37 : decode cX12_sumsUp 37 = .ok (.iload 5, 2) := by decide +kernel
theorem dX12_sumsUp_39 : decode cX12_sumsUp 39 = .ok (.ifCond .ne 7, 3) := by decide +kernel
theorem dX12_sumsUp_42 : decode cX12_sumsUp 42 = .ok (.iconst 0, 1) := by decide +kernel
theorem dX12_sumsUp_43 : decode cX12_sumsUp 43 = .ok (.goto 4, 3) := by decide +kernel
theorem dX12_sumsUp_46 : decode cX12_sumsUp 46 = .ok (.iconst 1, 1) := by decide +kernel
theorem dX12_sumsUp_47 : decode cX12_sumsUp 47 = .ok (.iadd, 1) := by decide +kernel
theorem dX12_sumsUp_48 : decode cX12_sumsUp 48 = .ok (.laload, 1) := by decide +kernel
theorem dX12_sumsUp_49 : decode cX12_sumsUp 49 = .ok (.ladd, 1) := by decide +kernel
theorem dX12_sumsUp_50 : decode cX12_sumsUp 50 = .ok (.aload_n 0, 1) := by decide +kernel
theorem dX12_sumsUp_51 : decode cX12_sumsUp 51 = .ok (.getfield 68, 3) := by decide +kernel
theorem dX12_sumsUp_54 : decode cX12_sumsUp 54 = .ok (.iload_n 1, 1) := by decide +kernel
theorem dX12_sumsUp_55 : decode cX12_sumsUp 55 = .ok (.iaload, 1) := by decide +kernel
theorem dX12_sumsUp_56 : decode cX12_sumsUp 56 = .ok (.i2l, 1) := by decide +kernel
theorem dX12_sumsUp_57 : decode cX12_sumsUp 57 = .ok (.lrem, 1) := by decide +kernel
theorem dX12_sumsUp_58 : decode cX12_sumsUp 58 = .ok (.lload_n 3, 1) := by decide +kernel
theorem dX12_sumsUp_59 : decode cX12_sumsUp 59 = .ok (.lcmp, 1) := by decide +kernel
theorem dX12_sumsUp_60 : decode cX12_sumsUp 60 = .ok (.ifCond .ne 7, 3) := by decide +kernel
theorem dX12_sumsUp_63 : decode cX12_sumsUp 63 = .ok (.iconst 1, 1) := by decide +kernel
theorem dX12_sumsUp_64 : decode cX12_sumsUp 64 = .ok (.goto 4, 3) := by decide +kernel
theorem dX12_sumsUp_67 : decode cX12_sumsUp 67 = .ok (.iconst 0, 1) := by decide +kernel
theorem dX12_sumsUp_68 : decode cX12_sumsUp 68 = .ok (.ireturn, 1) := by decide +kernel
set_option maxRecDepth 20000 in
theorem ggX12_nextClaim_X12_curveAt : GoodIn wsX12_nextClaim wsX12_curveAt := goodIn_r _ [11, 3, 12, 13, 14, 10, 15, 16, 17, 18, 19, 20, 21, 22, 23, 24, 25, 26, 27, 28, 29, 30, 31, 32, 33, 34, 35, 36, 37, 38, 39, 40, 41, 42, 43, 44, 45, 46, 47, 48, 49, 50, 51, 52, 53, 54, 55, 56, 57, 58, 59, 60, 61, 62, 63, 64, 65, 66, 67, 68, 69, 70, 71, 72, 73, 74, 75, 76, 77] (by decide +kernel) (by decide +kernel)
set_option maxRecDepth 20000 in
theorem gX12_nextClaim_X12_curveAt : GoodIn wsX12_nextClaim (wsV RX12 232 RX12 yX12_curveAt wsX12_curveAt) := goodIn_app (goodIn_of _ (by decide +kernel)) ggX12_nextClaim_X12_curveAt
theorem dX12_nextClaim_0 : decode cX12_nextClaim 0 = .ok (.aload_n 0, 1) := by decide +kernel
theorem dX12_nextClaim_1 : decode cX12_nextClaim 1 = .ok (.getfield 26, 3) := by decide +kernel
theorem dX12_nextClaim_4 : decode cX12_nextClaim 4 = .ok (.bipush 6, 2) := by decide +kernel
theorem dX12_nextClaim_6 : decode cX12_nextClaim 6 = .ok (.aload_n 0, 1) := by decide +kernel
theorem dX12_nextClaim_7 : decode cX12_nextClaim 7 = .ok (.getfield 65, 3) := by decide +kernel
theorem dX12_nextClaim_10 : decode cX12_nextClaim 10 = .ok (.iload_n 1, 1) := by decide +kernel
theorem dX12_nextClaim_11 : decode cX12_nextClaim 11 = .ok (.iaload, 1) := by decide +kernel
theorem dX12_nextClaim_12 : decode cX12_nextClaim 12 = .ok (.imul, 1) := by decide +kernel
theorem dX12_nextClaim_13 : decode cX12_nextClaim 13 = .ok (.iload_n 2, 1) := by decide +kernel
theorem dX12_nextClaim_14 : decode cX12_nextClaim 14 = .ok (.iadd, 1) := by decide +kernel
theorem dX12_nextClaim_15 : decode cX12_nextClaim 15 = .ok (.iaload, 1) := by decide +kernel
theorem dX12_nextClaim_16 : decode cX12_nextClaim 16 = .ok (.istore_n 3, 1) := by decide +kernel
theorem dX12_nextClaim_17 : decode cX12_nextClaim 17 = .ok (.iconst 0, 1) := by decide +kernel
theorem dX12_nextClaim_18 : decode cX12_nextClaim 18 = .ok (.istore 4, 2) := by decide +kernel
theorem dX12_nextClaim_20 : decode cX12_nextClaim 20 = .ok (.iload 4, 2) := by decide +kernel
theorem dX12_nextClaim_22 : decode cX12_nextClaim 22 = .ok (.iload_n 3, 1) := by decide +kernel
theorem dX12_nextClaim_23 : decode cX12_nextClaim 23 = .ok (.if_icmp .gt 29, 3) := by decide +kernel
theorem dX12_nextClaim_26 : decode cX12_nextClaim 26 = .ok (.aload_n 0, 1) := by decide +kernel
theorem dX12_nextClaim_27 : decode cX12_nextClaim 27 = .ok (.getfield 42, 3) := by decide +kernel
theorem dX12_nextClaim_30 : decode cX12_nextClaim 30 = .ok (.iload 4, 2) := by decide +kernel
theorem dX12_nextClaim_32 : decode cX12_nextClaim 32 = .ok (.aload_n 0, 1) := by decide +kernel
theorem dX12_nextClaim_33 : decode cX12_nextClaim 33 = .ok (.getfield 80, 3) := by decide +kernel
theorem dX12_nextClaim_36 : decode cX12_nextClaim 36 = .ok (.sipush 201, 3) := by decide +kernel
theorem dX12_nextClaim_39 : decode cX12_nextClaim 39 = .ok (.iload_n 2, 1) := by decide +kernel
theorem dX12_nextClaim_40 : decode cX12_nextClaim 40 = .ok (.imul, 1) := by decide +kernel
theorem dX12_nextClaim_41 : decode cX12_nextClaim 41 = .ok (.iload 4, 2) := by decide +kernel
theorem dX12_nextClaim_43 : decode cX12_nextClaim 43 = .ok (.iadd, 1) := by decide +kernel
theorem dX12_nextClaim_44 : decode cX12_nextClaim 44 = .ok (.laload, 1) := by decide +kernel
theorem dX12_nextClaim_45 : decode cX12_nextClaim 45 = .ok (.lastore, 1) := by decide +kernel
theorem dX12_nextClaim_46 : decode cX12_nextClaim 46 = .ok (.iinc 4 1, 3) := by decide +kernel
theorem dX12_nextClaim_49 : decode cX12_nextClaim 49 = .ok (.goto (-29), 3) := by decide +kernel
theorem dX12_nextClaim_52 : decode cX12_nextClaim 52 = .ok (.aload_n 0, 1) := by decide +kernel
theorem dX12_nextClaim_53 : decode cX12_nextClaim 53 = .ok (.iload_n 3, 1) := by decide +kernel
theorem dX12_nextClaim_54 : decode cX12_nextClaim 54 = .ok (.iconst 1, 1) := by decide +kernel
theorem dX12_nextClaim_55 : decode cX12_nextClaim 55 = .ok (.iadd, 1) := by decide +kernel
theorem dX12_nextClaim_56 : decode cX12_nextClaim 56 = .ok (.aload_n 0, 1) := by decide +kernel
theorem dX12_nextClaim_57 : decode cX12_nextClaim 57 = .ok (.getfield 77, 3) := by decide +kernel
theorem dX12_nextClaim_60 : decode cX12_nextClaim 60 = .ok (.iload_n 2, 1) := by decide +kernel
theorem dX12_nextClaim_61 : decode cX12_nextClaim 61 = .ok (.laload, 1) := by decide +kernel
theorem dX12_nextClaim_62 : decode cX12_nextClaim 62 = .ok (.aload_n 0, 1) := by decide +kernel
theorem dX12_nextClaim_63 : decode cX12_nextClaim 63 = .ok (.getfield 68, 3) := by decide +kernel
theorem dX12_nextClaim_66 : decode cX12_nextClaim 66 = .ok (.iload_n 1, 1) := by decide +kernel
theorem dX12_nextClaim_67 : decode cX12_nextClaim 67 = .ok (.iaload, 1) := by decide +kernel
theorem dX12_nextClaim_68 : decode cX12_nextClaim 68 = .ok (.i2l, 1) := by decide +kernel
theorem dX12_nextClaim_69 : decode cX12_nextClaim 69 = .ok (.invokevirtual 232, 3) := by decide +kernel
theorem dX12_nextClaim_72 : decode cX12_nextClaim 72 = .ok (.lreturn, 1) := by decide +kernel
set_option maxRecDepth 20000 in
theorem ggX12_endsWell_X12_asksEnd : GoodIn wsX12_endsWell wsX12_asksEnd := goodIn_r _ [11, 4, 12, 13, 14, 10, 15, 16, 17, 18, 19, 20, 21, 22, 23, 24, 25, 26, 27, 28, 29, 30, 31, 32, 33, 34, 35, 36, 37, 38, 39, 40, 41, 42, 43, 44, 45, 46, 47, 48, 49, 50, 51, 52, 53, 54, 55, 56, 57, 58, 59, 60, 61, 62, 63, 64, 65, 66, 67, 68, 69, 70, 71, 72, 73, 74, 75, 76, 77, 78, 79, 80, 81, 82, 83, 84, 85, 86, 87, 88, 89, 90, 91, 92, 93, 94, 95, 96, 97, 98, 99, 100, 101, 102, 103, 104, 105, 106, 107, 108, 109, 110, 111, 112, 113, 114, 115, 116, 117, 118, 119, 120, 121, 122, 123, 124, 125, 126, 127, 128, 129, 130, 131, 132, 133, 134, 135, 136, 137, 138, 139, 140, 141, 142, 143, 144, 145, 146, 147, 148, 149, 150, 151, 152, 153, 154, 155, 156, 157, 158, 159, 160, 161, 162, 163, 164, 165, 166, 167, 168, 169, 170, 171, 172, 173, 174, 175, 176, 177, 178, 179, 180, 181, 182, 183, 184, 185, 186, 187, 188, 189, 190, 191, 192, 193, 194, 195, 196, 197, 198, 199, 200, 201, 202, 203, 204, 215, 216, 217, 218, 219, 220, 221, 222, 223, 224, 225, 226, 227, 228, 229, 230, 231, 232, 233, 234, 235, 236, 237, 238, 239, 240, 241, 242, 243, 244, 245, 246, 247, 248, 249, 250, 251, 252, 253, 254, 255, 256, 257, 258, 259, 260, 261, 262, 263, 264, 265, 266, 267, 268, 269, 270, 271, 272, 273] (by decide +kernel) (by decide +kernel)
set_option maxRecDepth 20000 in
theorem gX12_endsWell_X12_asksEnd : GoodIn wsX12_endsWell (wsV RX12 337 RX12 yX12_asksEnd wsX12_asksEnd) := goodIn_app (goodIn_of _ (by decide +kernel)) ggX12_endsWell_X12_asksEnd
set_option maxRecDepth 20000 in
theorem ggX12_endsWell_X12_worthAt : GoodIn wsX12_endsWell wsX12_worthAt := goodIn_r _ [208, 209, 210, 211, 5, 212, 213, 10, 214, 215, 216, 217, 218, 219, 220, 221, 222, 223, 224, 225, 226, 227, 228, 229, 230, 231, 232, 233, 234, 235, 236, 237, 238, 239, 240, 241, 242, 243, 244, 245, 246, 247, 248, 249, 250, 251, 252, 253, 254, 255, 256, 257, 258, 259, 260, 261, 262, 263, 264, 265, 266, 267, 268, 269, 270, 271, 272, 273] (by decide +kernel) (by decide +kernel)
set_option maxRecDepth 20000 in
theorem gX12_endsWell_X12_worthAt : GoodIn wsX12_endsWell (wsV RX12 184 RX12 yX12_worthAt wsX12_worthAt) := goodIn_app (goodIn_of _ (by decide +kernel)) ggX12_endsWell_X12_worthAt
theorem dX12_endsWell_0 : decode cX12_endsWell 0 = .ok (.aload_n 0, 1) := by decide +kernel
theorem dX12_endsWell_1 : decode cX12_endsWell 1 = .ok (.getfield 65, 3) := by decide +kernel
theorem dX12_endsWell_4 : decode cX12_endsWell 4 = .ok (.iload_n 1, 1) := by decide +kernel
theorem dX12_endsWell_5 : decode cX12_endsWell 5 = .ok (.iaload, 1) := by decide +kernel
theorem dX12_endsWell_6 : decode cX12_endsWell 6 = .ok (.istore 4, 2) := by decide +kernel
theorem dX12_endsWell_8 : decode cX12_endsWell 8 = .ok (.aload_n 0, 1) := by decide +kernel
theorem dX12_endsWell_9 : decode cX12_endsWell 9 = .ok (.aload_n 0, 1) := by decide +kernel
theorem dX12_endsWell_10 : decode cX12_endsWell 10 = .ok (.getfield 71, 3) := by decide +kernel
theorem dX12_endsWell_13 : decode cX12_endsWell 13 = .ok (.iload_n 1, 1) := by decide +kernel
theorem dX12_endsWell_14 : decode cX12_endsWell 14 = .ok (.iaload, 1) := by decide +kernel
theorem dX12_endsWell_15 : decode cX12_endsWell 15 = .ok (.iload 4, 2) := by decide +kernel
theorem dX12_endsWell_17 : decode cX12_endsWell 17 = .ok (.aload_n 0, 1) := by decide +kernel
theorem dX12_endsWell_18 : decode cX12_endsWell 18 = .ok (.getfield 68, 3) := by decide +kernel
theorem dX12_endsWell_21 : decode cX12_endsWell 21 = .ok (.iload_n 1, 1) := by decide +kernel
theorem dX12_endsWell_22 : decode cX12_endsWell 22 = .ok (.iaload, 1) := by decide +kernel
theorem dX12_endsWell_23 : decode cX12_endsWell 23 = .ok (.invokevirtual 337, 3) := by decide +kernel
theorem dX12_endsWell_26 : decode cX12_endsWell 26 = .ok (.ifCond .ne 5, 3) := by decide +kernel
theorem dX12_endsWell_29 : decode cX12_endsWell 29 = .ok (.iconst 1, 1) := by decide +kernel
theorem dX12_endsWell_30 : decode cX12_endsWell 30 = .ok (.ireturn, 1) := by decide +kernel
theorem dX12_endsWell_31 : decode cX12_endsWell 31 = .ok (.iconst 0, 1) := by decide +kernel
theorem dX12_endsWell_32 : decode cX12_endsWell 32 = .ok (.istore 5, 2) := by decide +kernel
theorem dX12_endsWell_34 : decode cX12_endsWell 34 = .ok (.iload 5, 2) := by decide +kernel
theorem dX12_endsWell_36 : decode cX12_endsWell 36 = .ok (.aload_n 0, 1) := by decide +kernel
theorem dX12_endsWell_37 : decode cX12_endsWell 37 = .ok (.getfield 23, 3) := by decide +kernel
theorem dX12_endsWell_40 : decode cX12_endsWell 40 = .ok (.iload 4, 2) := by decide +kernel
theorem dX12_endsWell_42 : decode cX12_endsWell 42 = .ok (.iaload, 1) := by decide +kernel
theorem dX12_endsWell_43 : decode cX12_endsWell 43 = .ok (.if_icmp .ge 23, 3) := by decide +kernel
theorem dX12_endsWell_46 : decode cX12_endsWell 46 = .ok (.aload_n 0, 1) := by decide +kernel
theorem dX12_endsWell_47 : decode cX12_endsWell 47 = .ok (.getfield 36, 3) := by decide +kernel
theorem dX12_endsWell_50 : decode cX12_endsWell 50 = .ok (.iload 5, 2) := by decide +kernel
theorem dX12_endsWell_52 : decode cX12_endsWell 52 = .ok (.aload_n 0, 1) := by decide +kernel
theorem dX12_endsWell_53 : decode cX12_endsWell 53 = .ok (.getfield 77, 3) := by decide +kernel
theorem dX12_endsWell_56 : decode cX12_endsWell 56 = .ok (.iload 5, 2) := by decide +kernel
theorem dX12_endsWell_58 : decode cX12_endsWell 58 = .ok (.laload, 1) := by decide +kernel
theorem dX12_endsWell_59 : decode cX12_endsWell 59 = .ok (.lastore, 1) := by decide +kernel
theorem dX12_endsWell_60 : decode cX12_endsWell 60 = .ok (.iinc 5 1, 3) := by decide +kernel
theorem dX12_endsWell_63 : decode cX12_endsWell 63 = .ok (.goto (-29), 3) := by decide +kernel
theorem dX12_endsWell_66 : decode cX12_endsWell 66 = .ok (.aload_n 0, 1) := by decide +kernel
theorem dX12_endsWell_67 : decode cX12_endsWell 67 = .ok (.iload 4, 2) := by decide +kernel
theorem dX12_endsWell_69 : decode cX12_endsWell 69 = .ok (.aload_n 0, 1) := by decide +kernel
theorem dX12_endsWell_70 : decode cX12_endsWell 70 = .ok (.getfield 68, 3) := by decide +kernel
theorem dX12_endsWell_73 : decode cX12_endsWell 73 = .ok (.iload_n 1, 1) := by decide +kernel
theorem dX12_endsWell_74 : decode cX12_endsWell 74 = .ok (.iaload, 1) := by decide +kernel
theorem dX12_endsWell_75 : decode cX12_endsWell 75 = .ok (.i2l, 1) := by decide +kernel
theorem dX12_endsWell_76 : decode cX12_endsWell 76 = .ok (.invokevirtual 184, 3) := by decide +kernel
theorem dX12_endsWell_79 : decode cX12_endsWell 79 = .ok (.lload_n 2, 1) := by decide +kernel
theorem dX12_endsWell_80 : decode cX12_endsWell 80 = .ok (.lcmp, 1) := by decide +kernel
theorem dX12_endsWell_81 : decode cX12_endsWell 81 = .ok (.ifCond .ne 7, 3) := by decide +kernel
theorem dX12_endsWell_84 : decode cX12_endsWell 84 = .ok (.iconst 1, 1) := by decide +kernel
theorem dX12_endsWell_85 : decode cX12_endsWell 85 = .ok (.goto 4, 3) := by decide +kernel
theorem dX12_endsWell_88 : decode cX12_endsWell 88 = .ok (.iconst 0, 1) := by decide +kernel
theorem dX12_endsWell_89 : decode cX12_endsWell 89 = .ok (.ireturn, 1) := by decide +kernel
theorem dX12_mix_0 : decode cX12_mix 0 = .ok (.aload_n 0, 1) := by decide +kernel
theorem dX12_mix_1 : decode cX12_mix 1 = .ok (.aload_n 0, 1) := by decide +kernel
theorem dX12_mix_2 : decode cX12_mix 2 = .ok (.getfield 341, 3) := by decide +kernel
theorem dX12_mix_5 : decode cX12_mix 5 = .ok (.ldc2_w 344, 3) := by decide +kernel
theorem dX12_mix_8 : decode cX12_mix 8 = .ok (.lmul, 1) := by decide +kernel
theorem dX12_mix_9 : decode cX12_mix 9 = .ok (.ldc2_w 346, 3) := by decide +kernel
theorem dX12_mix_12 : decode cX12_mix 12 = .ok (.ladd, 1) := by decide +kernel
theorem dX12_mix_13 : decode cX12_mix 13 = .ok (.lload_n 1, 1) := by decide +kernel
theorem dX12_mix_14 : decode cX12_mix 14 = .ok (.ladd, 1) := by decide +kernel
theorem dX12_mix_15 : decode cX12_mix 15 = .ok (.putfield 341, 3) := by decide +kernel
theorem dX12_mix_18 : decode cX12_mix 18 = .ok (.return_, 1) := by decide +kernel
set_option maxRecDepth 20000 in
theorem ggX12_goes_X12_firstClaim : GoodIn wsX12_goes wsX12_firstClaim := goodIn_r _ [17, 1, 11, 18, 7, 19, 20, 21, 22, 16, 23, 24, 25, 26, 27, 28, 29, 30, 31, 32, 33, 34, 35, 36, 37, 38, 39, 40, 41, 42, 43, 44, 45, 46, 47, 48, 49, 50, 51, 52, 53, 54, 55, 56, 57, 58, 59, 60, 61, 62, 63, 64, 65, 66, 67, 68, 69, 70, 71, 72, 73, 74, 75, 76, 77, 78, 79, 80, 81, 82, 83, 84, 85, 86, 87, 88, 89, 90, 91, 92, 93, 94, 95, 96, 97, 98, 99, 100, 101, 102, 103, 104, 105, 106, 107, 108, 109, 110, 111, 112, 113, 114, 115, 116, 117, 118, 119, 120, 121, 122, 123, 124, 125, 126, 127, 128, 129, 130, 131, 132, 133, 134, 135, 136, 137, 138, 139, 140, 141, 142, 143, 144, 145, 146, 147, 148, 149, 150, 151, 152, 153, 154, 155, 156, 157, 158, 159, 160, 161, 162, 163, 164, 165, 166, 167, 168, 169, 170, 171, 172, 173, 174, 175, 176, 177, 178, 179, 180, 181, 182, 183, 184, 185, 186, 187, 188, 189, 190, 191, 192, 193, 194, 195, 196, 197, 198, 199, 200, 201, 202, 203, 204, 205, 206, 207, 208, 209, 210, 211, 212, 213, 214, 215, 216, 217, 218, 219, 220, 221, 222, 223, 224, 225, 226, 278, 279, 280, 281, 282, 283, 284, 285, 286, 287, 288, 289, 290, 291, 292, 293, 294, 295, 296, 297, 298, 299, 300, 301, 302, 303, 304, 305, 306, 307, 308, 309, 310, 311, 312, 313, 314, 315, 316, 317, 318, 319, 320, 321, 322, 323, 324, 325, 326, 327, 328, 329, 330, 331, 332, 333, 334, 335, 336] (by decide +kernel) (by decide +kernel)
set_option maxRecDepth 20000 in
theorem gX12_goes_X12_firstClaim : GoodIn wsX12_goes (wsV RX12 354 RX12 yX12_firstClaim wsX12_firstClaim) := goodIn_app (goodIn_of _ (by decide +kernel)) ggX12_goes_X12_firstClaim
set_option maxRecDepth 20000 in
theorem ggX12_goes_X12_mix : GoodIn wsX12_goes wsX12_mix := goodIn_r _ [230, 2, 231, 232, 278, 279, 280, 281, 282, 283, 284, 285, 286, 287, 288, 289, 290, 291, 292, 293, 294, 295, 296, 297, 298, 299, 300, 301, 302, 303, 304, 305, 306, 307, 308, 309, 310, 311, 312, 313, 314, 315, 316, 317, 318, 319, 320, 321, 322, 323, 324, 325, 326, 327, 328, 329, 330, 331, 332, 333, 334, 335, 336] (by decide +kernel) (by decide +kernel)
set_option maxRecDepth 20000 in
theorem gX12_goes_X12_mix : GoodIn wsX12_goes (wsV RX12 364 RX12 yX12_mix wsX12_mix) := goodIn_app (goodIn_of _ (by decide +kernel)) ggX12_goes_X12_mix
set_option maxRecDepth 20000 in
theorem ggX12_goes_X12_speaks : GoodIn wsX12_goes wsX12_speaks := goodIn_r _ [236, 1, 11, 8, 18, 12, 7, 9, 19, 237, 238, 239, 16, 240, 33, 29, 30, 31, 32, 34, 35, 36, 37, 38, 39, 40, 41, 42, 43, 20, 21, 22, 23, 44, 45, 46, 47, 48, 49, 50, 51, 52, 53, 54, 55, 56, 57, 58, 59, 60, 61, 62, 63, 64, 65, 66, 67, 68, 69, 70, 71, 72, 73, 74, 75, 76, 77, 78, 79, 80, 81, 82, 83, 84, 85, 86, 87, 88, 89, 90, 91, 92, 93, 94, 95, 96, 97, 98, 99, 100, 101, 102, 103, 104, 105, 106, 107, 108, 109, 110, 111, 112, 113, 114, 115, 116, 117, 118, 119, 120, 121, 122, 123, 124, 125, 126, 127, 128, 129, 130, 131, 132, 133, 134, 135, 136, 137, 138, 139, 140, 141, 142, 143, 144, 145, 146, 147, 148, 149, 150, 151, 152, 153, 154, 155, 156, 157, 158, 159, 160, 161, 162, 163, 164, 165, 166, 167, 168, 169, 170, 171, 172, 173, 174, 175, 176, 177, 178, 179, 180, 181, 182, 183, 184, 185, 186, 187, 188, 189, 190, 191, 192, 193, 194, 195, 196, 197, 198, 199, 200, 201, 202, 203, 204, 205, 206, 207, 208, 209, 210, 211, 212, 213, 214, 215, 216, 217, 218, 219, 220, 221, 222, 223, 224, 225, 226, 278, 279, 280, 281, 282, 283, 284, 285, 286, 287, 288, 289, 290, 291, 292, 293, 294, 295, 296, 297, 298, 299, 300, 301, 302, 303, 304, 305, 306, 307, 308, 309, 310, 311, 312, 313, 314, 315, 316, 317, 318, 319, 320, 321, 322, 323, 324, 325, 326, 327, 328, 329, 330, 331, 332, 333, 334, 335, 336] (by decide +kernel) (by decide +kernel)
set_option maxRecDepth 20000 in
theorem gX12_goes_X12_speaks : GoodIn wsX12_goes (wsV RX12 368 RX12 yX12_speaks wsX12_speaks) := goodIn_app (goodIn_of _ (by decide +kernel)) ggX12_goes_X12_speaks
set_option maxRecDepth 20000 in
theorem ggX12_goes_X12_asksSum : GoodIn wsX12_goes wsX12_asksSum := goodIn_r _ [244, 245, 246, 247, 16, 248, 18, 7, 8, 20, 21, 22, 23, 44, 45, 46, 47, 48, 49, 50, 51, 52, 53, 54, 55, 56, 57, 58, 59, 60, 61, 62, 63, 64, 65, 66, 67, 68, 69, 70, 71, 72, 73, 74, 75, 76, 77, 78, 79, 80, 81, 82, 83, 84, 85, 86, 87, 88, 89, 90, 91, 92, 93, 94, 95, 96, 97, 98, 99, 100, 101, 102, 103, 104, 105, 106, 107, 108, 109, 110, 111, 112, 113, 114, 115, 116, 117, 118, 119, 120, 121, 122, 123, 124, 125, 126, 127, 128, 129, 130, 131, 132, 133, 134, 135, 136, 137, 138, 139, 140, 141, 142, 143, 144, 145, 146, 147, 148, 149, 150, 151, 152, 153, 154, 155, 156, 157, 158, 159, 160, 161, 162, 163, 164, 165, 166, 167, 168, 169, 170, 171, 172, 173, 174, 175, 176, 177, 178, 179, 180, 181, 182, 183, 184, 185, 186, 187, 188, 189, 190, 191, 192, 193, 194, 195, 196, 197, 198, 199, 200, 201, 202, 203, 204, 205, 206, 207, 208, 209, 210, 211, 212, 213, 214, 215, 216, 217, 218, 219, 220, 221, 222, 223, 224, 225, 226, 278, 279, 280, 281, 282, 283, 284, 285, 286, 287, 288, 289, 290, 291, 292, 293, 294, 295, 296, 297, 298, 299, 300, 301, 302, 303, 304, 305, 306, 307, 308, 309, 310, 311, 312, 313, 314, 315, 316, 317, 318, 319, 320, 321, 322, 323, 324, 325, 326, 327, 328, 329, 330, 331, 332, 333, 334, 335, 336] (by decide +kernel) (by decide +kernel)
set_option maxRecDepth 20000 in
theorem gX12_goes_X12_asksSum : GoodIn wsX12_goes (wsV RX12 372 RX12 yX12_asksSum wsX12_asksSum) := goodIn_app (goodIn_of _ (by decide +kernel)) ggX12_goes_X12_asksSum
set_option maxRecDepth 20000 in
theorem ggX12_goes_X12_sumsUp : GoodIn wsX12_goes wsX12_sumsUp := goodIn_r _ [252, 8, 1, 9, 11, 278, 279, 280, 281, 282, 283, 284, 285, 286, 287, 288, 289, 290, 291, 292, 293, 294, 295, 296, 297, 298, 299, 300, 301, 302, 303, 304, 305, 306, 307, 308, 309, 310, 311, 312, 313, 314, 315, 316, 317, 318, 319, 320, 321, 322, 323, 324, 325, 326, 327, 328, 329, 330, 331, 332, 333, 334, 335, 336] (by decide +kernel) (by decide +kernel)
set_option maxRecDepth 20000 in
theorem gX12_goes_X12_sumsUp : GoodIn wsX12_goes (wsV RX12 376 RX12 yX12_sumsUp wsX12_sumsUp) := goodIn_app (goodIn_of _ (by decide +kernel)) ggX12_goes_X12_sumsUp
set_option maxRecDepth 20000 in
theorem ggX12_goes_X12_draws : GoodIn wsX12_goes wsX12_draws := goodIn_r _ [256, 199, 200, 108, 201, 202, 203, 204, 245, 246, 247, 16, 248, 18, 7, 8, 20, 21, 22, 23, 44, 45, 46, 47, 48, 49, 50, 51, 52, 53, 54, 55, 56, 57, 58, 59, 60, 61, 62, 63, 64, 65, 66, 67, 68, 69, 70, 71, 72, 73, 74, 75, 76, 77, 78, 79, 80, 81, 82, 83, 84, 85, 86, 87, 88, 89, 90, 91, 92, 93, 94, 95, 96, 97, 98, 99, 100, 101, 102, 103, 104, 105, 106, 107, 109, 110, 111, 112, 113, 114, 115, 116, 117, 118, 119, 120, 121, 122, 123, 124, 125, 126, 127, 128, 129, 130, 131, 132, 133, 134, 135, 136, 137, 138, 139, 140, 141, 142, 143, 144, 145, 146, 147, 148, 149, 150, 151, 152, 153, 154, 155, 156, 157, 158, 159, 160, 161, 162, 163, 164, 165, 166, 167, 168, 169, 170, 171, 172, 173, 174, 175, 176, 177, 178, 179, 180, 181, 182, 183, 184, 185, 186, 187, 188, 189, 190, 191, 192, 193, 194, 195, 196, 197, 198, 205, 206, 207, 208, 209, 210, 211, 212, 213, 214, 215, 216, 217, 218, 219, 220, 221, 222, 223, 224, 225, 226, 278, 279, 280, 281, 282, 283, 284, 285, 286, 287, 288, 289, 290, 291, 292, 293, 294, 295, 296, 297, 298, 299, 300, 301, 302, 303, 304, 305, 306, 307, 308, 309, 310, 311, 312, 313, 314, 315, 316, 317, 318, 319, 320, 321, 322, 323, 324, 325, 326, 327, 328, 329, 330, 331, 332, 333, 334, 335, 336] (by decide +kernel) (by decide +kernel)
set_option maxRecDepth 20000 in
theorem gX12_goes_X12_draws : GoodIn wsX12_goes (wsV RX12 380 RX12 yX12_draws wsX12_draws) := goodIn_app (goodIn_of _ (by decide +kernel)) ggX12_goes_X12_draws
set_option maxRecDepth 20000 in
theorem ggX12_goes_X12_nextClaim : GoodIn wsX12_goes wsX12_nextClaim := goodIn_r _ [260, 8, 1, 261, 9, 12, 11, 262, 263, 264, 16, 265, 266, 41, 42, 43, 267, 268, 269, 278, 279, 280, 281, 282, 283, 284, 285, 286, 287, 288, 289, 290, 291, 292, 293, 294, 295, 296, 297, 298, 299, 300, 301, 302, 303, 304, 305, 306, 307, 308, 309, 310, 311, 312, 313, 314, 315, 316, 317, 318, 319, 320, 321, 322, 323, 324, 325, 326, 327, 328, 329, 330, 331, 332, 333, 334, 335, 336] (by decide +kernel) (by decide +kernel)
set_option maxRecDepth 20000 in
theorem gX12_goes_X12_nextClaim : GoodIn wsX12_goes (wsV RX12 384 RX12 yX12_nextClaim wsX12_nextClaim) := goodIn_app (goodIn_of _ (by decide +kernel)) ggX12_goes_X12_nextClaim
set_option maxRecDepth 20000 in
theorem ggX12_goes_X12_endsWell : GoodIn wsX12_goes wsX12_endsWell := goodIn_r _ [273, 1, 10, 11, 7, 33, 12, 274, 275, 276, 16, 277, 245, 246, 247, 248, 18, 8, 20, 21, 22, 23, 44, 45, 46, 47, 48, 49, 50, 51, 52, 53, 54, 55, 56, 57, 58, 59, 60, 61, 62, 63, 64, 65, 66, 67, 68, 69, 70, 71, 72, 73, 74, 75, 76, 77, 78, 79, 80, 81, 82, 83, 84, 85, 86, 87, 88, 89, 90, 91, 92, 93, 94, 95, 96, 97, 98, 99, 100, 101, 102, 103, 104, 105, 106, 107, 108, 109, 110, 111, 112, 113, 114, 115, 116, 117, 118, 119, 120, 121, 122, 123, 124, 125, 126, 127, 128, 129, 130, 131, 132, 133, 134, 135, 136, 137, 138, 139, 140, 141, 142, 143, 144, 145, 146, 147, 148, 149, 150, 151, 152, 153, 154, 155, 156, 157, 158, 159, 160, 161, 162, 163, 164, 165, 166, 167, 168, 169, 170, 171, 172, 173, 174, 175, 176, 177, 178, 179, 180, 181, 182, 183, 184, 185, 186, 187, 188, 189, 190, 191, 192, 193, 194, 195, 196, 197, 198, 199, 200, 201, 202, 203, 204, 205, 206, 207, 208, 209, 210, 211, 212, 213, 214, 215, 216, 217, 218, 219, 220, 221, 222, 223, 224, 225, 226, 34, 35, 36, 37, 38, 39, 40, 41, 42, 43, 278, 279, 280, 281, 282, 283, 284, 285, 286, 287, 288, 289, 290, 291, 292, 293, 294, 295, 296, 297, 298, 299, 300, 301, 302, 303, 304, 305, 306, 307, 308, 309, 310, 311, 312, 313, 314, 315, 316, 317, 318, 319, 320, 321, 322, 323, 324, 325, 326, 327, 328, 329, 330, 331, 332, 333, 334, 335, 336] (by decide +kernel) (by decide +kernel)
set_option maxRecDepth 20000 in
theorem gX12_goes_X12_endsWell : GoodIn wsX12_goes (wsV RX12 387 RX12 yX12_endsWell wsX12_endsWell) := goodIn_app (goodIn_of _ (by decide +kernel)) ggX12_goes_X12_endsWell
theorem dX12_goes_0 : decode cX12_goes 0 = .ok (.aload_n 0, 1) := by decide +kernel
theorem dX12_goes_1 : decode cX12_goes 1 = .ok (.getfield 65, 3) := by decide +kernel
theorem dX12_goes_4 : decode cX12_goes 4 = .ok (.iload_n 1, 1) := by decide +kernel
theorem dX12_goes_5 : decode cX12_goes 5 = .ok (.iaload, 1) := by decide +kernel
theorem dX12_goes_6 : decode cX12_goes 6 = .ok (.istore 6, 2) := by decide +kernel
theorem dX12_goes_8 : decode cX12_goes 8 = .ok (.aload_n 0, 1) := by decide +kernel
theorem dX12_goes_9 : decode cX12_goes 9 = .ok (.iload_n 2, 1) := by decide +kernel
theorem dX12_goes_10 : decode cX12_goes 10 = .ok (.ifCond .eq 7, 3) := by decide +kernel
theorem dX12_goes_13 : decode cX12_goes 13 = .ok (.lconst 1, 1) := by decide +kernel
theorem dX12_goes_14 : decode cX12_goes 14 = .ok (.goto 4, 3) := by decide +kernel
theorem dX12_goes_17 : decode cX12_goes 17 = .ok (.lload_n 3, 1) := by decide +kernel
theorem dX12_goes_18 : decode cX12_goes 18 = .ok (.putfield 341, 3) := by decide +kernel
theorem dX12_goes_21 : decode cX12_goes 21 = .ok (.aload_n 0, 1) := by decide +kernel
theorem dX12_goes_22 : decode cX12_goes 22 = .ok (.iconst (-1), 1) := by decide +kernel
theorem dX12_goes_23 : decode cX12_goes 23 = .ok (.putfield 348, 3) := by decide +kernel
theorem dX12_goes_26 : decode cX12_goes 26 = .ok (.aload_n 0, 1) := by decide +kernel
theorem dX12_goes_27 : decode cX12_goes 27 = .ok (.iconst 0, 1) := by decide +kernel
theorem dX12_goes_28 : decode cX12_goes 28 = .ok (.putfield 351, 3) := by decide +kernel
theorem dX12_goes_31 : decode cX12_goes 31 = .ok (.aload_n 0, 1) := by decide +kernel
theorem dX12_goes_32 : decode cX12_goes 32 = .ok (.aload_n 0, 1) := by decide +kernel
theorem dX12_goes_33 : decode cX12_goes 33 = .ok (.iload_n 1, 1) := by decide +kernel
theorem dX12_goes_34 : decode cX12_goes 34 = .ok (.iload 5, 2) := by decide +kernel
theorem dX12_goes_36 : decode cX12_goes 36 = .ok (.invokevirtual 354, 3) := by decide +kernel
theorem dX12_goes_39 : decode cX12_goes 39 = .ok (.putfield 358, 3) := by decide +kernel
theorem dX12_goes_42 : decode cX12_goes 42 = .ok (.aload_n 0, 1) := by decide +kernel
theorem dX12_goes_43 : decode cX12_goes 43 = .ok (.aload_n 0, 1) := by decide +kernel
theorem dX12_goes_44 : decode cX12_goes 44 = .ok (.getfield 358, 3) := by decide +kernel
theorem dX12_goes_47 : decode cX12_goes 47 = .ok (.putfield 361, 3) := by decide +kernel
theorem dX12_goes_50 : decode cX12_goes 50 = .ok (.iload_n 2, 1) := by decide +kernel
theorem dX12_goes_51 : decode cX12_goes 51 = .ok (.ifCond .eq 11, 3) := by decide +kernel
theorem dX12_goes_54 : decode cX12_goes 54 = .ok (.aload_n 0, 1) := by decide +kernel
theorem dX12_goes_55 : decode cX12_goes 55 = .ok (.aload_n 0, 1) := by decide +kernel
theorem dX12_goes_56 : decode cX12_goes 56 = .ok (.getfield 358, 3) := by decide +kernel
theorem dX12_goes_59 : decode cX12_goes 59 = .ok (.invokevirtual 364, 3) := by decide +kernel
theorem dX12_goes_62 : decode cX12_goes 62 = .ok (.iconst 0, 1) := by decide +kernel
theorem dX12_goes_63 : decode cX12_goes 63 = .ok (.istore 7, 2) := by decide +kernel
theorem dX12_goes_65 : decode cX12_goes 65 = .ok (.iload 7, 2) := by decide +kernel
theorem dX12_goes_67 : decode cX12_goes 67 = .ok (.aload_n 0, 1) := by decide +kernel
theorem dX12_goes_68 : decode cX12_goes 68 = .ok (.getfield 23, 3) := by decide +kernel
theorem dX12_goes_71 : decode cX12_goes 71 = .ok (.iload 6, 2) := by decide +kernel
theorem dX12_goes_73 : decode cX12_goes 73 = .ok (.iaload, 1) := by decide +kernel
theorem dX12_goes_74 : decode cX12_goes 74 = .ok (.if_icmp .ge 182, 3) := by decide +kernel
theorem dX12_goes_77 : decode cX12_goes 77 = .ok (.aload_n 0, 1) := by decide +kernel
theorem dX12_goes_78 : decode cX12_goes 78 = .ok (.iload_n 1, 1) := by decide +kernel
theorem dX12_goes_79 : decode cX12_goes 79 = .ok (.iload 7, 2) := by decide +kernel
theorem dX12_goes_81 : decode cX12_goes 81 = .ok (.aload_n 0, 1) := by decide +kernel
theorem dX12_goes_82 : decode cX12_goes 82 = .ok (.getfield 361, 3) := by decide +kernel
theorem dX12_goes_85 : decode cX12_goes 85 = .ok (.iload 5, 2) := by decide +kernel
theorem dX12_goes_87 : decode cX12_goes 87 = .ok (.invokevirtual 368, 3) := by decide +kernel
theorem dX12_goes_90 : decode cX12_goes 90 = .ok (.iconst 0, 1) := by decide +kernel
theorem dX12_goes_91 : decode cX12_goes 91 = .ok (.istore 8, 2) := by decide +kernel
theorem dX12_goes_93 : decode cX12_goes 93 = .ok (.iload 8, 2) := by decide +kernel
theorem dX12_goes_95 : decode cX12_goes 95 = .ok (.aload_n 0, 1) := by decide +kernel
theorem dX12_goes_96 : decode cX12_goes 96 = .ok (.getfield 26, 3) := by decide +kernel
theorem dX12_goes_99 : decode cX12_goes 99 = .ok (.bipush 6, 2) := by decide +kernel
theorem dX12_goes_101 : decode cX12_goes 101 = .ok (.iload 6, 2) := by decide +kernel
theorem dX12_goes_103 : decode cX12_goes 103 = .ok (.imul, 1) := by decide +kernel
theorem dX12_goes_104 : decode cX12_goes 104 = .ok (.iload 7, 2) := by decide +kernel
theorem dX12_goes_106 : decode cX12_goes 106 = .ok (.iadd, 1) := by decide +kernel
theorem dX12_goes_107 : decode cX12_goes 107 = .ok (.iaload, 1) := by decide +kernel
theorem dX12_goes_108 : decode cX12_goes 108 = .ok (.if_icmp .gt 31, 3) := by decide +kernel
theorem dX12_goes_111 : decode cX12_goes 111 = .ok (.iload_n 2, 1) := by decide +kernel
theorem dX12_goes_112 : decode cX12_goes 112 = .ok (.ifCond .eq 27, 3) := by decide +kernel
theorem dX12_goes_115 : decode cX12_goes 115 = .ok (.aload_n 0, 1) := by decide +kernel
theorem dX12_goes_116 : decode cX12_goes 116 = .ok (.aload_n 0, 1) := by decide +kernel
theorem dX12_goes_117 : decode cX12_goes 117 = .ok (.getfield 80, 3) := by decide +kernel
theorem dX12_goes_120 : decode cX12_goes 120 = .ok (.sipush 201, 3) := by decide +kernel
theorem dX12_goes_123 : decode cX12_goes 123 = .ok (.iload 7, 2) := by decide +kernel
theorem dX12_goes_125 : decode cX12_goes 125 = .ok (.imul, 1) := by decide +kernel
theorem dX12_goes_126 : decode cX12_goes 126 = .ok (.iload 8, 2) := by decide +kernel
theorem dX12_goes_128 : decode cX12_goes 128 = .ok (.iadd, 1) := by decide +kernel
theorem dX12_goes_129 : decode cX12_goes 129 = .ok (.laload, 1) := by decide +kernel
theorem dX12_goes_130 : decode cX12_goes 130 = .ok (.invokevirtual 364, 3) := by decide +kernel
theorem dX12_goes_133 : decode cX12_goes 133 = .ok (.iinc 8 1, 3) := by decide +kernel
theorem dX12_goes_136 : decode cX12_goes 136 = .ok (.goto (-43), 3) := by decide +kernel
theorem dX12_goes_139 : decode cX12_goes 139 = .ok (.aload_n 0, 1) := by decide +kernel
theorem dX12_goes_140 : decode cX12_goes 140 = .ok (.aload_n 0, 1) := by decide +kernel
theorem dX12_goes_141 : decode cX12_goes 141 = .ok (.getfield 71, 3) := by decide +kernel
theorem dX12_goes_144 : decode cX12_goes 144 = .ok (.iload_n 1, 1) := by decide +kernel
theorem dX12_goes_145 : decode cX12_goes 145 = .ok (.iaload, 1) := by decide +kernel
theorem dX12_goes_146 : decode cX12_goes 146 = .ok (.iload 6, 2) := by decide +kernel
theorem dX12_goes_148 : decode cX12_goes 148 = .ok (.aload_n 0, 1) := by decide +kernel
theorem dX12_goes_149 : decode cX12_goes 149 = .ok (.getfield 68, 3) := by decide +kernel
theorem dX12_goes_152 : decode cX12_goes 152 = .ok (.iload_n 1, 1) := by decide +kernel
theorem dX12_goes_153 : decode cX12_goes 153 = .ok (.iaload, 1) := by decide +kernel
theorem dX12_goes_154 : decode cX12_goes 154 = .ok (.iload 7, 2) := by decide +kernel
theorem dX12_goes_156 : decode cX12_goes 156 = .ok (.invokevirtual 372, 3) := by decide +kernel
theorem dX12_goes_159 : decode cX12_goes 159 = .ok (.ifCond .eq 25, 3) := by decide +kernel
theorem dX12_goes_162 : decode cX12_goes 162 = .ok (.aload_n 0, 1) := by decide +kernel
theorem dX12_goes_163 : decode cX12_goes 163 = .ok (.iload_n 1, 1) := by decide +kernel
theorem dX12_goes_164 : decode cX12_goes 164 = .ok (.iload 7, 2) := by decide +kernel
theorem dX12_goes_166 : decode cX12_goes 166 = .ok (.aload_n 0, 1) := by decide +kernel
theorem dX12_goes_167 : decode cX12_goes 167 = .ok (.getfield 361, 3) := by decide +kernel
theorem dX12_goes_170 : decode cX12_goes 170 = .ok (.invokevirtual 376, 3) := by decide +kernel
theorem dX12_goes_173 : decode cX12_goes 173 = .ok (.ifCond .ne 11, 3) := by decide +kernel
theorem dX12_goes_176 : decode cX12_goes 176 = .ok (.aload_n 0, 1) := by decide +kernel
theorem dX12_goes_177 : decode cX12_goes 177 = .ok (.iload 7, 2) := by decide +kernel
theorem dX12_goes_179 : decode cX12_goes 179 = .ok (.putfield 348, 3) := by decide +kernel
theorem dX12_goes_182 : decode cX12_goes 182 = .ok (.iconst 0, 1) := by decide +kernel
theorem dX12_goes_183 : decode cX12_goes 183 = .ok (.ireturn, 1) := by decide +kernel
theorem dX12_goes_184 : decode cX12_goes 184 = .ok (.iload_n 2, 1) := by decide +kernel
theorem dX12_goes_185 : decode cX12_goes 185 = .ok (.ifCond .ne 8, 3) := by decide +kernel
theorem dX12_goes_188 : decode cX12_goes 188 = .ok (.aload_n 0, 1) := by decide +kernel
theorem dX12_goes_189 : decode cX12_goes 189 = .ok (.lconst 0, 1) := by decide +kernel
theorem dX12_goes_190 : decode cX12_goes 190 = .ok (.invokevirtual 364, 3) := by decide +kernel
theorem dX12_goes_193 : decode cX12_goes 193 = .ok (.aload_n 0, 1) := by decide +kernel
theorem dX12_goes_194 : decode cX12_goes 194 = .ok (.getfield 77, 3) := by decide +kernel
theorem dX12_goes_197 : decode cX12_goes 197 = .ok (.iload 7, 2) := by decide +kernel
theorem dX12_goes_199 : decode cX12_goes 199 = .ok (.aload_n 0, 1) := by decide +kernel
theorem dX12_goes_200 : decode cX12_goes 200 = .ok (.getfield 341, 3) := by decide +kernel
theorem dX12_goes_203 : decode cX12_goes 203 = .ok (.bipush 33, 2) := by decide +kernel
theorem dX12_goes_205 : decode cX12_goes 205 = .ok (.lushr, 1) := by decide +kernel
theorem dX12_goes_206 : decode cX12_goes 206 = .ok (.aload_n 0, 1) := by decide +kernel
theorem dX12_goes_207 : decode cX12_goes 207 = .ok (.aload_n 0, 1) := by decide +kernel
theorem dX12_goes_208 : decode cX12_goes 208 = .ok (.getfield 71, 3) := by decide +kernel
theorem dX12_goes_211 : decode cX12_goes 211 = .ok (.iload_n 1, 1) := by decide +kernel
theorem dX12_goes_212 : decode cX12_goes 212 = .ok (.iaload, 1) := by decide +kernel
theorem dX12_goes_213 : decode cX12_goes 213 = .ok (.iload 6, 2) := by decide +kernel
theorem dX12_goes_215 : decode cX12_goes 215 = .ok (.aload_n 0, 1) := by decide +kernel
theorem dX12_goes_216 : decode cX12_goes 216 = .ok (.getfield 68, 3) := by decide +kernel
theorem dX12_goes_219 : decode cX12_goes 219 = .ok (.iload_n 1, 1) := by decide +kernel
theorem dX12_goes_220 : decode cX12_goes 220 = .ok (.iaload, 1) := by decide +kernel
theorem dX12_goes_221 : decode cX12_goes 221 = .ok (.iload 7, 2) := by decide +kernel
theorem dX12_goes_223 : decode cX12_goes 223 = .ok (.invokevirtual 380, 3) := by decide +kernel
theorem dX12_goes_226 : decode cX12_goes 226 = .ok (.i2l, 1) := by decide +kernel
theorem dX12_goes_227 : decode cX12_goes 227 = .ok (.lrem, 1) := by decide +kernel
theorem dX12_goes_228 : decode cX12_goes 228 = .ok (.lastore, 1) := by decide +kernel
theorem dX12_goes_229 : decode cX12_goes 229 = .ok (.aload_n 0, 1) := by decide +kernel
theorem dX12_goes_230 : decode cX12_goes 230 = .ok (.dup, 1) := by decide +kernel
theorem dX12_goes_231 : decode cX12_goes 231 = .ok (.getfield 351, 3) := by decide +kernel
theorem dX12_goes_234 : decode cX12_goes 234 = .ok (.iconst 1, 1) := by decide +kernel
theorem dX12_goes_235 : decode cX12_goes 235 = .ok (.iadd, 1) := by decide +kernel
theorem dX12_goes_236 : decode cX12_goes 236 = .ok (.putfield 351, 3) := by decide +kernel
theorem dX12_goes_239 : decode cX12_goes 239 = .ok (.aload_n 0, 1) := by decide +kernel
theorem dX12_goes_240 : decode cX12_goes 240 = .ok (.aload_n 0, 1) := by decide +kernel
theorem dX12_goes_241 : decode cX12_goes 241 = .ok (.iload_n 1, 1) := by decide +kernel
theorem dX12_goes_242 : decode cX12_goes 242 = .ok (.iload 7, 2) := by decide +kernel
theorem dX12_goes_244 : decode cX12_goes 244 = .ok (.invokevirtual 384, 3) := by decide +kernel
theorem dX12_goes_247 : decode cX12_goes 247 = .ok (.putfield 361, 3) := by decide +kernel
theorem dX12_goes_250 : decode cX12_goes 250 = .ok (.iinc 7 1, 3) := by decide +kernel
theorem dX12_goes_253 : decode cX12_goes 253 = .ok (.goto (-188), 3) := by decide +kernel
theorem dX12_goes_256 : decode cX12_goes 256 = .ok (.aload_n 0, 1) := by decide +kernel
theorem dX12_goes_257 : decode cX12_goes 257 = .ok (.iload_n 1, 1) := by decide +kernel
theorem dX12_goes_258 : decode cX12_goes 258 = .ok (.aload_n 0, 1) := by decide +kernel
theorem dX12_goes_259 : decode cX12_goes 259 = .ok (.getfield 361, 3) := by decide +kernel
theorem dX12_goes_262 : decode cX12_goes 262 = .ok (.invokevirtual 387, 3) := by decide +kernel
theorem dX12_goes_265 : decode cX12_goes 265 = .ok (.ifCond .eq 5, 3) := by decide +kernel
theorem dX12_goes_268 : decode cX12_goes 268 = .ok (.iconst 1, 1) := by decide +kernel
theorem dX12_goes_269 : decode cX12_goes 269 = .ok (.ireturn, 1) := by decide +kernel
theorem dX12_goes_270 : decode cX12_goes 270 = .ok (.aload_n 0, 1) := by decide +kernel
theorem dX12_goes_271 : decode cX12_goes 271 = .ok (.aload_n 0, 1) := by decide +kernel
theorem dX12_goes_272 : decode cX12_goes 272 = .ok (.getfield 23, 3) := by decide +kernel
theorem dX12_goes_275 : decode cX12_goes 275 = .ok (.iload 6, 2) := by decide +kernel
theorem dX12_goes_277 : decode cX12_goes 277 = .ok (.iaload, 1) := by decide +kernel
theorem dX12_goes_278 : decode cX12_goes 278 = .ok (.putfield 348, 3) := by decide +kernel
theorem dX12_goes_281 : decode cX12_goes 281 = .ok (.iconst 0, 1) := by decide +kernel
theorem dX12_goes_282 : decode cX12_goes 282 = .ok (.ireturn, 1) := by decide +kernel
theorem dX12_keep_0 : decode cX12_keep 0 = .ok (.aload_n 0, 1) := by decide +kernel
theorem dX12_keep_1 : decode cX12_keep 1 = .ok (.iconst 1, 1) := by decide +kernel
theorem dX12_keep_2 : decode cX12_keep 2 = .ok (.putfield 391, 3) := by decide +kernel
theorem dX12_keep_5 : decode cX12_keep 5 = .ok (.aload_n 0, 1) := by decide +kernel
theorem dX12_keep_6 : decode cX12_keep 6 = .ok (.iload_n 1, 1) := by decide +kernel
theorem dX12_keep_7 : decode cX12_keep 7 = .ok (.putfield 394, 3) := by decide +kernel
theorem dX12_keep_10 : decode cX12_keep 10 = .ok (.aload_n 0, 1) := by decide +kernel
theorem dX12_keep_11 : decode cX12_keep 11 = .ok (.aload_n 0, 1) := by decide +kernel
theorem dX12_keep_12 : decode cX12_keep 12 = .ok (.getfield 348, 3) := by decide +kernel
theorem dX12_keep_15 : decode cX12_keep 15 = .ok (.putfield 397, 3) := by decide +kernel
theorem dX12_keep_18 : decode cX12_keep 18 = .ok (.aload_n 0, 1) := by decide +kernel
theorem dX12_keep_19 : decode cX12_keep 19 = .ok (.aload_n 0, 1) := by decide +kernel
theorem dX12_keep_20 : decode cX12_keep 20 = .ok (.getfield 351, 3) := by decide +kernel
theorem dX12_keep_23 : decode cX12_keep 23 = .ok (.putfield 400, 3) := by decide +kernel
theorem dX12_keep_26 : decode cX12_keep 26 = .ok (.aload_n 0, 1) := by decide +kernel
theorem dX12_keep_27 : decode cX12_keep 27 = .ok (.aload_n 0, 1) := by decide +kernel
theorem dX12_keep_28 : decode cX12_keep 28 = .ok (.getfield 358, 3) := by decide +kernel
theorem dX12_keep_31 : decode cX12_keep 31 = .ok (.putfield 403, 3) := by decide +kernel
theorem dX12_keep_34 : decode cX12_keep 34 = .ok (.aload_n 0, 1) := by decide +kernel
theorem dX12_keep_35 : decode cX12_keep 35 = .ok (.aload_n 0, 1) := by decide +kernel
theorem dX12_keep_36 : decode cX12_keep 36 = .ok (.getfield 361, 3) := by decide +kernel
theorem dX12_keep_39 : decode cX12_keep 39 = .ok (.putfield 406, 3) := by decide +kernel
theorem dX12_keep_42 : decode cX12_keep 42 = .ok (.aload_n 0, 1) := by decide +kernel
theorem dX12_keep_43 : decode cX12_keep 43 = .ok (.getfield 23, 3) := by decide +kernel
theorem dX12_keep_46 : decode cX12_keep 46 = .ok (.aload_n 0, 1) := by decide +kernel
theorem dX12_keep_47 : decode cX12_keep 47 = .ok (.getfield 65, 3) := by decide +kernel
theorem dX12_keep_50 : decode cX12_keep 50 = .ok (.iload_n 1, 1) := by decide +kernel
theorem dX12_keep_51 : decode cX12_keep 51 = .ok (.iaload, 1) := by decide +kernel
theorem dX12_keep_52 : decode cX12_keep 52 = .ok (.iaload, 1) := by decide +kernel
theorem dX12_keep_53 : decode cX12_keep 53 = .ok (.istore_n 3, 1) := by decide +kernel
theorem dX12_keep_54 : decode cX12_keep 54 = .ok (.aload_n 0, 1) := by decide +kernel
theorem dX12_keep_55 : decode cX12_keep 55 = .ok (.aload_n 0, 1) := by decide +kernel
theorem dX12_keep_56 : decode cX12_keep 56 = .ok (.getfield 348, 3) := by decide +kernel
theorem dX12_keep_59 : decode cX12_keep 59 = .ok (.iconst (-1), 1) := by decide +kernel
theorem dX12_keep_60 : decode cX12_keep 60 = .ok (.if_icmp .ne 7, 3) := by decide +kernel
theorem dX12_keep_63 : decode cX12_keep 63 = .ok (.iload_n 3, 1) := by decide +kernel
theorem dX12_keep_64 : decode cX12_keep 64 = .ok (.goto 13, 3) := by decide +kernel
theorem dX12_keep_67 : decode cX12_keep 67 = .ok (.iload_n 3, 1) := by decide +kernel
theorem dX12_keep_68 : decode cX12_keep 68 = .ok (.aload_n 0, 1) := by decide +kernel
theorem dX12_keep_69 : decode cX12_keep 69 = .ok (.getfield 348, 3) := by decide +kernel
theorem dX12_keep_72 : decode cX12_keep 72 = .ok (.iconst 1, 1) := by decide +kernel
theorem dX12_keep_73 : decode cX12_keep 73 = .ok (.iadd, 1) := by decide +kernel
theorem dX12_keep_74 : decode cX12_keep 74 = .ok (.invokestatic 409, 3) := by decide +kernel
theorem dX12_keep_77 : decode cX12_keep 77 = .ok (.putfield 411, 3) := by decide +kernel
theorem dX12_keep_80 : decode cX12_keep 80 = .ok (.iconst 0, 1) := by decide +kernel
theorem dX12_keep_81 : decode cX12_keep 81 = .ok (.istore 4, 2) := by decide +kernel
theorem dX12_keep_83 : decode cX12_keep 83 = .ok (.iload 4, 2) := by decide +kernel
theorem dX12_keep_85 : decode cX12_keep 85 = .ok (.aload_n 0, 1) := by decide +kernel
theorem dX12_keep_86 : decode cX12_keep 86 = .ok (.getfield 83, 3) := by decide +kernel
theorem dX12_keep_89 : decode cX12_keep 89 = .ok (.arraylength, 1) := by decide +kernel
theorem dX12_keep_90 : decode cX12_keep 90 = .ok (.if_icmp .ge 23, 3) := by decide +kernel
theorem dX12_keep_93 : decode cX12_keep 93 = .ok (.aload_n 0, 1) := by decide +kernel
theorem dX12_keep_94 : decode cX12_keep 94 = .ok (.getfield 83, 3) := by decide +kernel
theorem dX12_keep_97 : decode cX12_keep 97 = .ok (.iload 4, 2) := by decide +kernel
theorem dX12_keep_99 : decode cX12_keep 99 = .ok (.aload_n 0, 1) := by decide +kernel
theorem dX12_keep_100 : decode cX12_keep 100 = .ok (.getfield 80, 3) := by decide +kernel
theorem dX12_keep_103 : decode cX12_keep 103 = .ok (.iload 4, 2) := by decide +kernel
theorem dX12_keep_105 : decode cX12_keep 105 = .ok (.laload, 1) := by decide +kernel
theorem dX12_keep_106 : decode cX12_keep 106 = .ok (.lastore, 1) := by decide +kernel
theorem dX12_keep_107 : decode cX12_keep 107 = .ok (.iinc 4 1, 3) := by decide +kernel
theorem dX12_keep_110 : decode cX12_keep 110 = .ok (.goto (-27), 3) := by decide +kernel
theorem dX12_keep_113 : decode cX12_keep 113 = .ok (.iconst 0, 1) := by decide +kernel
theorem dX12_keep_114 : decode cX12_keep 114 = .ok (.istore 4, 2) := by decide +kernel
theorem dX12_keep_116 : decode cX12_keep 116 = .ok (.iload 4, 2) := by decide +kernel
theorem dX12_keep_118 : decode cX12_keep 118 = .ok (.bipush 6, 2) := by decide +kernel
theorem dX12_keep_120 : decode cX12_keep 120 = .ok (.if_icmp .ge 23, 3) := by decide +kernel
theorem dX12_keep_123 : decode cX12_keep 123 = .ok (.aload_n 0, 1) := by decide +kernel
theorem dX12_keep_124 : decode cX12_keep 124 = .ok (.getfield 86, 3) := by decide +kernel
theorem dX12_keep_127 : decode cX12_keep 127 = .ok (.iload 4, 2) := by decide +kernel
theorem dX12_keep_129 : decode cX12_keep 129 = .ok (.aload_n 0, 1) := by decide +kernel
theorem dX12_keep_130 : decode cX12_keep 130 = .ok (.getfield 77, 3) := by decide +kernel
theorem dX12_keep_133 : decode cX12_keep 133 = .ok (.iload 4, 2) := by decide +kernel
theorem dX12_keep_135 : decode cX12_keep 135 = .ok (.laload, 1) := by decide +kernel
theorem dX12_keep_136 : decode cX12_keep 136 = .ok (.lastore, 1) := by decide +kernel
theorem dX12_keep_137 : decode cX12_keep 137 = .ok (.iinc 4 1, 3) := by decide +kernel
theorem dX12_keep_140 : decode cX12_keep 140 = .ok (.goto (-24), 3) := by decide +kernel
theorem dX12_keep_143 : decode cX12_keep 143 = .ok (.iload_n 2, 1) := by decide +kernel
theorem dX12_keep_144 : decode cX12_keep 144 = .ok (.ifCond .eq 7, 3) := by decide +kernel
theorem dX12_keep_147 : decode cX12_keep 147 = .ok (.iconst 1, 1) := by decide +kernel
theorem dX12_keep_148 : decode cX12_keep 148 = .ok (.goto 4, 3) := by decide +kernel
theorem dX12_keep_151 : decode cX12_keep 151 = .ok (.iconst 0, 1) := by decide +kernel
theorem dX12_keep_152 : decode cX12_keep 152 = .ok (.ireturn, 1) := by decide +kernel
set_option maxRecDepth 20000 in
theorem ggX12_isAsked_X12_isTalk : GoodIn wsX12_isAsked wsX12_isTalk := goodIn_r _ [7, 8, 12, 13, 14, 15, 16, 17, 18, 19, 20, 21, 22, 23, 24, 25, 26, 27, 28, 29, 30, 31, 32, 33, 34, 35, 36, 37, 38, 39, 40, 41, 42, 43, 44, 45, 46, 47, 48, 49, 50, 51, 52, 53, 54, 55, 56, 57, 58, 59, 60, 61, 62, 63, 64, 65, 66, 67, 68, 69, 70] (by decide +kernel) (by decide +kernel)
set_option maxRecDepth 20000 in
theorem gX12_isAsked_X12_isTalk : GoodIn wsX12_isAsked (wsV RX12 414 RX12 yX12_isTalk wsX12_isTalk) := goodIn_app (goodIn_of _ (by decide +kernel)) ggX12_isAsked_X12_isTalk
set_option maxRecDepth 20000 in
theorem ggX12_isAsked_X12_isIn : GoodIn wsX12_isAsked wsX12_isIn := goodIn_r _ [11] (by decide +kernel) (by decide +kernel)
set_option maxRecDepth 20000 in
theorem gX12_isAsked_X12_isIn : GoodIn wsX12_isAsked (va_wsS RX12 199 yX12_isIn wsX12_isIn) := goodIn_app (goodIn_of _ (by decide +kernel)) ggX12_isAsked_X12_isIn
theorem dX12_isAsked_0 : decode cX12_isAsked 0 = .ok (.aload_n 0, 1) := by decide +kernel
theorem dX12_isAsked_1 : decode cX12_isAsked 1 = .ok (.iconst 0, 1) := by decide +kernel
theorem dX12_isAsked_2 : decode cX12_isAsked 2 = .ok (.putfield 101, 3) := by decide +kernel
theorem dX12_isAsked_5 : decode cX12_isAsked 5 = .ok (.aload_n 0, 1) := by decide +kernel
theorem dX12_isAsked_6 : decode cX12_isAsked 6 = .ok (.iload_n 1, 1) := by decide +kernel
theorem dX12_isAsked_7 : decode cX12_isAsked 7 = .ok (.invokevirtual 414, 3) := by decide +kernel
theorem dX12_isAsked_10 : decode cX12_isAsked 10 = .ok (.ifCond .eq 19, 3) := by decide +kernel
theorem dX12_isAsked_13 : decode cX12_isAsked 13 = .ok (.iload_n 2, 1) := by decide +kernel
theorem dX12_isAsked_14 : decode cX12_isAsked 14 = .ok (.i2l, 1) := by decide +kernel
theorem dX12_isAsked_15 : decode cX12_isAsked 15 = .ok (.lconst 0, 1) := by decide +kernel
theorem dX12_isAsked_16 : decode cX12_isAsked 16 = .ok (.ldc2_w 417, 3) := by decide +kernel
theorem dX12_isAsked_19 : decode cX12_isAsked 19 = .ok (.invokestatic 199, 3) := by decide +kernel
theorem dX12_isAsked_22 : decode cX12_isAsked 22 = .ok (.ifCond .eq 7, 3) := by decide +kernel
theorem dX12_isAsked_25 : decode cX12_isAsked 25 = .ok (.iconst 1, 1) := by decide +kernel
theorem dX12_isAsked_26 : decode cX12_isAsked 26 = .ok (.goto 4, 3) := by decide +kernel
theorem dX12_isAsked_29 : decode cX12_isAsked 29 = .ok (.iconst 0, 1) := by decide +kernel
theorem dX12_isAsked_30 : decode cX12_isAsked 30 = .ok (.ireturn, 1) := by decide +kernel
set_option maxRecDepth 20000 in
theorem ggX12_run_X12_isAsked : GoodIn wsX12_run wsX12_isAsked := goodIn_r _ [5, 6, 7, 8, 9, 10, 4, 11, 12, 13, 14, 15, 310, 311, 312, 313, 314, 315, 316, 317, 318, 319, 320, 321, 322, 323, 324, 325, 326, 327, 328, 329, 330, 331, 332, 333, 334, 335, 336, 337, 338, 339, 340, 341, 342, 343, 344, 345, 346, 347, 348, 349, 350, 351, 352, 353, 354, 355, 356, 357, 358, 359, 360, 361, 362, 363, 364, 365, 366, 367, 368] (by decide +kernel) (by decide +kernel)
set_option maxRecDepth 20000 in
theorem gX12_run_X12_isAsked : GoodIn wsX12_run (wsV RX12 419 RX12 yX12_isAsked wsX12_isAsked) := goodIn_app (goodIn_of _ (by decide +kernel)) ggX12_run_X12_isAsked
set_option maxRecDepth 20000 in
theorem ggX12_run_X12_goes : GoodIn wsX12_run wsX12_goes := goodIn_r _ [19, 20, 21, 22, 23, 24, 25, 26, 27, 28, 29, 30, 31, 32, 33, 34, 4, 35, 36, 37, 38, 39, 40, 41, 42, 43, 44, 45, 46, 47, 48, 49, 50, 51, 52, 53, 54, 55, 56, 57, 58, 59, 60, 61, 62, 63, 64, 65, 66, 67, 68, 69, 70, 71, 72, 73, 74, 75, 76, 77, 78, 79, 80, 81, 82, 83, 84, 85, 86, 87, 88, 89, 90, 91, 92, 93, 94, 95, 96, 97, 98, 99, 100, 101, 102, 103, 104, 105, 106, 107, 108, 109, 110, 111, 112, 113, 114, 115, 116, 117, 118, 119, 120, 121, 122, 123, 124, 125, 126, 127, 128, 129, 130, 131, 132, 133, 134, 135, 136, 137, 138, 139, 140, 141, 142, 143, 144, 145, 146, 147, 148, 149, 150, 151, 152, 153, 154, 155, 156, 157, 158, 159, 160, 161, 162, 163, 164, 165, 166, 167, 168, 169, 170, 171, 172, 173, 174, 175, 176, 177, 178, 179, 180, 181, 182, 183, 184, 185, 186, 187, 188, 189, 190, 191, 192, 193, 194, 195, 196, 197, 198, 199, 200, 201, 202, 203, 204, 205, 206, 207, 208, 209, 210, 211, 212, 213, 214, 215, 216, 217, 218, 219, 220, 221, 222, 223, 224, 225, 226, 227, 228, 229, 230, 231, 232, 233, 234, 235, 236, 237, 238, 239, 240, 241, 242, 243, 244, 245, 246, 247, 248, 249, 250, 251, 252, 253, 254, 255, 256, 257, 258, 259, 260, 261, 262, 263, 264, 265, 266, 267, 268, 269, 270, 271, 272, 273, 274, 275, 276, 277, 278, 279, 280, 281, 282, 283, 284, 285, 286, 287, 288, 289, 290, 291, 292, 293, 294, 295, 310, 311, 312, 313, 314, 315, 316, 317, 318, 319, 320, 321, 322, 323, 324, 325, 326, 327, 328, 329, 330, 331, 332, 333, 334, 335, 336, 337, 338, 339, 340, 341, 342, 343, 344, 345, 346, 347, 348, 349, 350, 351, 352, 353, 354, 355, 356, 357, 358, 359, 360, 361, 362, 363, 364, 365, 366, 367, 368] (by decide +kernel) (by decide +kernel)
set_option maxRecDepth 20000 in
theorem gX12_run_X12_goes : GoodIn wsX12_run (wsV RX12 422 RX12 yX12_goes wsX12_goes) := goodIn_app (goodIn_of _ (by decide +kernel)) ggX12_run_X12_goes
set_option maxRecDepth 20000 in
theorem ggX12_run_X12_keep : GoodIn wsX12_run wsX12_keep := goodIn_r _ [299, 300, 301, 22, 302, 23, 303, 24, 304, 25, 305, 26, 20, 306, 129, 126, 130, 307, 308, 28, 309, 31, 310, 311, 312, 313, 314, 315, 316, 317, 318, 319, 320, 321, 322, 323, 324, 325, 326, 327, 328, 329, 330, 331, 332, 333, 334, 335, 336, 337, 338, 339, 340, 341, 342, 343, 344, 345, 346, 347, 348, 349, 350, 351, 352, 353, 354, 355, 356, 357, 358, 359, 360, 361, 362, 363, 364, 365, 366, 367, 368] (by decide +kernel) (by decide +kernel)
set_option maxRecDepth 20000 in
theorem gX12_run_X12_keep : GoodIn wsX12_run (wsV RX12 426 RX12 yX12_keep wsX12_keep) := goodIn_app (goodIn_of _ (by decide +kernel)) ggX12_run_X12_keep
theorem dX12_run_0 : decode cX12_run 0 = .ok (.aload_n 0, 1) := by decide +kernel
theorem dX12_run_1 : decode cX12_run 1 = .ok (.iload_n 1, 1) := by decide +kernel
theorem dX12_run_2 : decode cX12_run 2 = .ok (.iload 4, 2) := by decide +kernel
theorem dX12_run_4 : decode cX12_run 4 = .ok (.invokevirtual 419, 3) := by decide +kernel
theorem dX12_run_7 : decode cX12_run 7 = .ok (.ifCond .eq 20, 3) := by decide +kernel
theorem dX12_run_10 : decode cX12_run 10 = .ok (.aload_n 0, 1) := by decide +kernel
theorem dX12_run_11 : decode cX12_run 11 = .ok (.iload_n 1, 1) := by decide +kernel
theorem dX12_run_12 : decode cX12_run 12 = .ok (.aload_n 0, 1) := by decide +kernel
theorem dX12_run_13 : decode cX12_run 13 = .ok (.iload_n 1, 1) := by decide +kernel
theorem dX12_run_14 : decode cX12_run 14 = .ok (.iconst 0, 1) := by decide +kernel
theorem dX12_run_15 : decode cX12_run 15 = .ok (.lload_n 2, 1) := by decide +kernel
theorem dX12_run_16 : decode cX12_run 16 = .ok (.iload 4, 2) := by decide +kernel
theorem dX12_run_18 : decode cX12_run 18 = .ok (.invokevirtual 422, 3) := by decide +kernel
theorem dX12_run_21 : decode cX12_run 21 = .ok (.invokevirtual 426, 3) := by decide +kernel
theorem dX12_run_24 : decode cX12_run 24 = .ok (.goto 4, 3) := by decide +kernel
theorem dX12_run_27 : decode cX12_run 27 = .ok (.iconst (-1), 1) := by decide +kernel
theorem dX12_run_28 : decode cX12_run 28 = .ok (.ireturn, 1) := by decide +kernel
set_option maxRecDepth 20000 in
theorem ggX12_fixed_X12_isAsked : GoodIn wsX12_fixed wsX12_isAsked := goodIn_r _ [5, 6, 7, 8, 9, 10, 4, 11, 12, 13, 14, 15, 310, 311, 312, 313, 314, 315, 316, 317, 318, 319, 320, 321, 322, 323, 324, 325, 326, 327, 328, 329, 330, 331, 332, 333, 334, 335, 336, 337, 338, 339, 340, 341, 342, 343, 344, 345, 346, 347, 348, 349, 350, 351, 352, 353, 354, 355, 356, 357, 358, 359, 360, 361, 362, 363, 364, 365, 366, 367, 368] (by decide +kernel) (by decide +kernel)
set_option maxRecDepth 20000 in
theorem gX12_fixed_X12_isAsked : GoodIn wsX12_fixed (wsV RX12 419 RX12 yX12_isAsked wsX12_isAsked) := goodIn_app (goodIn_of _ (by decide +kernel)) ggX12_fixed_X12_isAsked
set_option maxRecDepth 20000 in
theorem ggX12_fixed_X12_goes : GoodIn wsX12_fixed wsX12_goes := goodIn_r _ [19, 20, 21, 22, 23, 24, 25, 26, 27, 28, 29, 30, 31, 32, 33, 34, 4, 35, 36, 37, 38, 39, 40, 41, 42, 43, 44, 45, 46, 47, 48, 49, 50, 51, 52, 53, 54, 55, 56, 57, 58, 59, 60, 61, 62, 63, 64, 65, 66, 67, 68, 69, 70, 71, 72, 73, 74, 75, 76, 77, 78, 79, 80, 81, 82, 83, 84, 85, 86, 87, 88, 89, 90, 91, 92, 93, 94, 95, 96, 97, 98, 99, 100, 101, 102, 103, 104, 105, 106, 107, 108, 109, 110, 111, 112, 113, 114, 115, 116, 117, 118, 119, 120, 121, 122, 123, 124, 125, 126, 127, 128, 129, 130, 131, 132, 133, 134, 135, 136, 137, 138, 139, 140, 141, 142, 143, 144, 145, 146, 147, 148, 149, 150, 151, 152, 153, 154, 155, 156, 157, 158, 159, 160, 161, 162, 163, 164, 165, 166, 167, 168, 169, 170, 171, 172, 173, 174, 175, 176, 177, 178, 179, 180, 181, 182, 183, 184, 185, 186, 187, 188, 189, 190, 191, 192, 193, 194, 195, 196, 197, 198, 199, 200, 201, 202, 203, 204, 205, 206, 207, 208, 209, 210, 211, 212, 213, 214, 215, 216, 217, 218, 219, 220, 221, 222, 223, 224, 225, 226, 227, 228, 229, 230, 231, 232, 233, 234, 235, 236, 237, 238, 239, 240, 241, 242, 243, 244, 245, 246, 247, 248, 249, 250, 251, 252, 253, 254, 255, 256, 257, 258, 259, 260, 261, 262, 263, 264, 265, 266, 267, 268, 269, 270, 271, 272, 273, 274, 275, 276, 277, 278, 279, 280, 281, 282, 283, 284, 285, 286, 287, 288, 289, 290, 291, 292, 293, 294, 295, 310, 311, 312, 313, 314, 315, 316, 317, 318, 319, 320, 321, 322, 323, 324, 325, 326, 327, 328, 329, 330, 331, 332, 333, 334, 335, 336, 337, 338, 339, 340, 341, 342, 343, 344, 345, 346, 347, 348, 349, 350, 351, 352, 353, 354, 355, 356, 357, 358, 359, 360, 361, 362, 363, 364, 365, 366, 367, 368] (by decide +kernel) (by decide +kernel)
set_option maxRecDepth 20000 in
theorem gX12_fixed_X12_goes : GoodIn wsX12_fixed (wsV RX12 422 RX12 yX12_goes wsX12_goes) := goodIn_app (goodIn_of _ (by decide +kernel)) ggX12_fixed_X12_goes
set_option maxRecDepth 20000 in
theorem ggX12_fixed_X12_keep : GoodIn wsX12_fixed wsX12_keep := goodIn_r _ [299, 300, 301, 22, 302, 23, 303, 24, 304, 25, 305, 26, 20, 306, 129, 126, 130, 307, 308, 28, 309, 31, 310, 311, 312, 313, 314, 315, 316, 317, 318, 319, 320, 321, 322, 323, 324, 325, 326, 327, 328, 329, 330, 331, 332, 333, 334, 335, 336, 337, 338, 339, 340, 341, 342, 343, 344, 345, 346, 347, 348, 349, 350, 351, 352, 353, 354, 355, 356, 357, 358, 359, 360, 361, 362, 363, 364, 365, 366, 367, 368] (by decide +kernel) (by decide +kernel)
set_option maxRecDepth 20000 in
theorem gX12_fixed_X12_keep : GoodIn wsX12_fixed (wsV RX12 426 RX12 yX12_keep wsX12_keep) := goodIn_app (goodIn_of _ (by decide +kernel)) ggX12_fixed_X12_keep
theorem dX12_fixed_0 : decode cX12_fixed 0 = .ok (.aload_n 0, 1) := by decide +kernel
theorem dX12_fixed_1 : decode cX12_fixed 1 = .ok (.iload_n 1, 1) := by decide +kernel
theorem dX12_fixed_2 : decode cX12_fixed 2 = .ok (.iload_n 2, 1) := by decide +kernel
theorem dX12_fixed_3 : decode cX12_fixed 3 = .ok (.invokevirtual 419, 3) := by decide +kernel
theorem dX12_fixed_6 : decode cX12_fixed 6 = .ok (.ifCond .eq 19, 3) := by decide +kernel
theorem dX12_fixed_9 : decode cX12_fixed 9 = .ok (.aload_n 0, 1) := by decide +kernel
theorem dX12_fixed_10 : decode cX12_fixed 10 = .ok (.iload_n 1, 1) := by decide +kernel
theorem dX12_fixed_11 : decode cX12_fixed 11 = .ok (.aload_n 0, 1) := by decide +kernel
theorem dX12_fixed_12 : decode cX12_fixed 12 = .ok (.iload_n 1, 1) := by decide +kernel
theorem dX12_fixed_13 : decode cX12_fixed 13 = .ok (.iconst 1, 1) := by decide +kernel
theorem dX12_fixed_14 : decode cX12_fixed 14 = .ok (.lconst 0, 1) := by decide +kernel
theorem dX12_fixed_15 : decode cX12_fixed 15 = .ok (.iload_n 2, 1) := by decide +kernel
theorem dX12_fixed_16 : decode cX12_fixed 16 = .ok (.invokevirtual 422, 3) := by decide +kernel
theorem dX12_fixed_19 : decode cX12_fixed 19 = .ok (.invokevirtual 426, 3) := by decide +kernel
theorem dX12_fixed_22 : decode cX12_fixed 22 = .ok (.goto 4, 3) := by decide +kernel
theorem dX12_fixed_25 : decode cX12_fixed 25 = .ok (.iconst (-1), 1) := by decide +kernel
theorem dX12_fixed_26 : decode cX12_fixed 26 = .ok (.ireturn, 1) := by decide +kernel
theorem dX12_latest_0 : decode cX12_latest 0 = .ok (.aload_n 0, 1) := by decide +kernel
theorem dX12_latest_1 : decode cX12_latest 1 = .ok (.iconst 0, 1) := by decide +kernel
theorem dX12_latest_2 : decode cX12_latest 2 = .ok (.putfield 101, 3) := by decide +kernel
theorem dX12_latest_5 : decode cX12_latest 5 = .ok (.aload_n 0, 1) := by decide +kernel
theorem dX12_latest_6 : decode cX12_latest 6 = .ok (.getfield 391, 3) := by decide +kernel
theorem dX12_latest_9 : decode cX12_latest 9 = .ok (.ifCond .ne 5, 3) := by decide +kernel
theorem dX12_latest_12 : decode cX12_latest 12 = .ok (.iconst (-1), 1) := by decide +kernel
theorem dX12_latest_13 : decode cX12_latest 13 = .ok (.ireturn, 1) := by decide +kernel
theorem dX12_latest_14 : decode cX12_latest 14 = .ok (.iload_n 1, 1) := by decide +kernel
theorem dX12_latest_15 : decode cX12_latest 15 = .ok (.tableswitch 51 0 3 #[29, 35, 40, 46], 29) := by decide +kernel
theorem dX12_latest_44 : decode cX12_latest 44 = .ok (.aload_n 0, 1) := by decide +kernel
theorem dX12_latest_45 : decode cX12_latest 45 = .ok (.getfield 403, 3) := by decide +kernel
theorem dX12_latest_48 : decode cX12_latest 48 = .ok (.l2i, 1) := by decide +kernel
theorem dX12_latest_49 : decode cX12_latest 49 = .ok (.ireturn, 1) := by decide +kernel
theorem dX12_latest_50 : decode cX12_latest 50 = .ok (.aload_n 0, 1) := by decide +kernel
theorem dX12_latest_51 : decode cX12_latest 51 = .ok (.getfield 397, 3) := by decide +kernel
theorem dX12_latest_54 : decode cX12_latest 54 = .ok (.ireturn, 1) := by decide +kernel
theorem dX12_latest_55 : decode cX12_latest 55 = .ok (.aload_n 0, 1) := by decide +kernel
theorem dX12_latest_56 : decode cX12_latest 56 = .ok (.getfield 406, 3) := by decide +kernel
theorem dX12_latest_59 : decode cX12_latest 59 = .ok (.l2i, 1) := by decide +kernel
theorem dX12_latest_60 : decode cX12_latest 60 = .ok (.ireturn, 1) := by decide +kernel
theorem dX12_latest_61 : decode cX12_latest 61 = .ok (.aload_n 0, 1) := by decide +kernel
theorem dX12_latest_62 : decode cX12_latest 62 = .ok (.getfield 400, 3) := by decide +kernel
theorem dX12_latest_65 : decode cX12_latest 65 = .ok (.ireturn, 1) := by decide +kernel
theorem dX12_latest_66 : decode cX12_latest 66 = .ok (.iconst (-1), 1) := by decide +kernel
theorem dX12_latest_67 : decode cX12_latest 67 = .ok (.ireturn, 1) := by decide +kernel
set_option maxRecDepth 20000 in
theorem ggX12_value_X12_isIn : GoodIn wsX12_value wsX12_isIn := goodIn_r _ [18] (by decide +kernel) (by decide +kernel)
set_option maxRecDepth 20000 in
theorem gX12_value_X12_isIn : GoodIn wsX12_value (va_wsS RX12 199 yX12_isIn wsX12_isIn) := goodIn_app (goodIn_of _ (by decide +kernel)) ggX12_value_X12_isIn
theorem dX12_value_0 : decode cX12_value 0 = .ok (.aload_n 0, 1) := by decide +kernel
theorem dX12_value_1 : decode cX12_value 1 = .ok (.aload_n 0, 1) := by decide +kernel
theorem dX12_value_2 : decode cX12_value 2 = .ok (.getfield 391, 3) := by decide +kernel
theorem dX12_value_5 : decode cX12_value 5 = .ok (.ifCond .eq 60, 3) := by decide +kernel
theorem dX12_value_8 : decode cX12_value 8 = .ok (.iload_n 1, 1) := by decide +kernel
theorem dX12_value_9 : decode cX12_value 9 = .ok (.i2l, 1) := by decide +kernel
theorem dX12_value_10 : decode cX12_value 10 = .ok (.lconst 0, 1) := by decide +kernel
theorem dX12_value_11 : decode cX12_value 11 = .ok (.aload_n 0, 1) := by decide +kernel
theorem dX12_value_12 : decode cX12_value 12 = .ok (.getfield 411, 3) := by decide +kernel
theorem dX12_value_15 : decode cX12_value 15 = .ok (.iconst 1, 1) := by decide +kernel
theorem dX12_value_16 : decode cX12_value 16 = .ok (.isub, 1) := by decide +kernel
theorem dX12_value_17 : decode cX12_value 17 = .ok (.i2l, 1) := by decide +kernel
theorem dX12_value_18 : decode cX12_value 18 = .ok (.invokestatic 199, 3) := by decide +kernel
theorem dX12_value_21 : decode cX12_value 21 = .ok (.ifCond .eq 44, 3) := by decide +kernel
theorem dX12_value_24 : decode cX12_value 24 = .ok (.iload_n 2, 1) := by decide +kernel
theorem dX12_value_25 : decode cX12_value 25 = .ok (.i2l, 1) := by decide +kernel
theorem dX12_value_26 : decode cX12_value 26 = .ok (.lconst 0, 1) := by decide +kernel
theorem dX12_value_27 : decode cX12_value 27 = .ok (.aload_n 0, 1) := by decide +kernel
theorem dX12_value_28 : decode cX12_value 28 = .ok (.getfield 26, 3) := by decide +kernel
theorem dX12_value_31 : decode cX12_value 31 = .ok (.bipush 6, 2) := by decide +kernel
theorem dX12_value_33 : decode cX12_value 33 = .ok (.aload_n 0, 1) := by decide +kernel
theorem dX12_value_34 : decode cX12_value 34 = .ok (.getfield 65, 3) := by decide +kernel
theorem dX12_value_37 : decode cX12_value 37 = .ok (.aload_n 0, 1) := by decide +kernel
theorem dX12_value_38 : decode cX12_value 38 = .ok (.getfield 394, 3) := by decide +kernel
theorem dX12_value_41 : decode cX12_value 41 = .ok (.iaload, 1) := by decide +kernel
theorem dX12_value_42 : decode cX12_value 42 = .ok (.imul, 1) := by decide +kernel
theorem dX12_value_43 : decode cX12_value 43 = .ok (.iconst 0, 1) := by decide +kernel
theorem dX12_value_44 : decode cX12_value 44 = .ok (.iload_n 1, 1) := by decide +kernel
theorem dX12_value_45 : decode cX12_value 45 = .ok (.iconst 5, 1) := by decide +kernel
theorem dX12_value_46 : decode cX12_value 46 = .ok (.invokestatic 409, 3) := by decide +kernel
theorem dX12_value_49 : decode cX12_value 49 = .ok (.invokestatic 145, 3) := by decide +kernel
theorem dX12_value_52 : decode cX12_value 52 = .ok (.iadd, 1) := by decide +kernel
theorem dX12_value_53 : decode cX12_value 53 = .ok (.iaload, 1) := by decide +kernel
theorem dX12_value_54 : decode cX12_value 54 = .ok (.i2l, 1) := by decide +kernel
theorem dX12_value_55 : decode cX12_value 55 = .ok (.invokestatic 199, 3) := by decide +kernel
theorem dX12_value_58 : decode cX12_value 58 = .ok (.ifCond .eq 7, 3) := by decide +kernel
theorem dX12_value_61 : decode cX12_value 61 = .ok (.iconst 0, 1) := by decide +kernel
theorem dX12_value_62 : decode cX12_value 62 = .ok (.goto 4, 3) := by decide +kernel
theorem dX12_value_65 : decode cX12_value 65 = .ok (.iconst 1, 1) := by decide +kernel
theorem dX12_value_66 : decode cX12_value 66 = .ok (.putfield 101, 3) := by decide +kernel
theorem dX12_value_69 : decode cX12_value 69 = .ok (.aload_n 0, 1) := by decide +kernel
theorem dX12_value_70 : decode cX12_value 70 = .ok (.getfield 101, 3) := by decide +kernel
theorem dX12_value_73 : decode cX12_value 73 = .ok (.ifCond .le 7, 3) := by decide +kernel
theorem dX12_value_76 : decode cX12_value 76 = .ok (.iconst 0, 1) := by decide +kernel
theorem dX12_value_77 : decode cX12_value 77 = .ok (.goto 16, 3) := by decide +kernel
theorem dX12_value_80 : decode cX12_value 80 = .ok (.aload_n 0, 1) := by decide +kernel
theorem dX12_value_81 : decode cX12_value 81 = .ok (.getfield 83, 3) := by decide +kernel
theorem dX12_value_84 : decode cX12_value 84 = .ok (.sipush 201, 3) := by decide +kernel
theorem dX12_value_87 : decode cX12_value 87 = .ok (.iload_n 1, 1) := by decide +kernel
theorem dX12_value_88 : decode cX12_value 88 = .ok (.imul, 1) := by decide +kernel
theorem dX12_value_89 : decode cX12_value 89 = .ok (.iload_n 2, 1) := by decide +kernel
theorem dX12_value_90 : decode cX12_value 90 = .ok (.iadd, 1) := by decide +kernel
theorem dX12_value_91 : decode cX12_value 91 = .ok (.laload, 1) := by decide +kernel
theorem dX12_value_92 : decode cX12_value 92 = .ok (.l2i, 1) := by decide +kernel
theorem dX12_value_93 : decode cX12_value 93 = .ok (.ireturn, 1) := by decide +kernel
set_option maxRecDepth 20000 in
theorem ggX12_draw_X12_isIn : GoodIn wsX12_draw wsX12_isIn := goodIn_r _ [8] (by decide +kernel) (by decide +kernel)
set_option maxRecDepth 20000 in
theorem gX12_draw_X12_isIn : GoodIn wsX12_draw (va_wsS RX12 199 yX12_isIn wsX12_isIn) := goodIn_app (goodIn_of _ (by decide +kernel)) ggX12_draw_X12_isIn
theorem dX12_draw_0 : decode cX12_draw 0 = .ok (.aload_n 0, 1) := by decide +kernel
theorem dX12_draw_1 : decode cX12_draw 1 = .ok (.iconst 0, 1) := by decide +kernel
theorem dX12_draw_2 : decode cX12_draw 2 = .ok (.putfield 101, 3) := by decide +kernel
theorem dX12_draw_5 : decode cX12_draw 5 = .ok (.aload_n 0, 1) := by decide +kernel
theorem dX12_draw_6 : decode cX12_draw 6 = .ok (.getfield 391, 3) := by decide +kernel
theorem dX12_draw_9 : decode cX12_draw 9 = .ok (.ifCond .eq 29, 3) := by decide +kernel
theorem dX12_draw_12 : decode cX12_draw 12 = .ok (.iload_n 1, 1) := by decide +kernel
theorem dX12_draw_13 : decode cX12_draw 13 = .ok (.i2l, 1) := by decide +kernel
theorem dX12_draw_14 : decode cX12_draw 14 = .ok (.lconst 0, 1) := by decide +kernel
theorem dX12_draw_15 : decode cX12_draw 15 = .ok (.aload_n 0, 1) := by decide +kernel
theorem dX12_draw_16 : decode cX12_draw 16 = .ok (.getfield 400, 3) := by decide +kernel
theorem dX12_draw_19 : decode cX12_draw 19 = .ok (.iconst 1, 1) := by decide +kernel
theorem dX12_draw_20 : decode cX12_draw 20 = .ok (.isub, 1) := by decide +kernel
theorem dX12_draw_21 : decode cX12_draw 21 = .ok (.i2l, 1) := by decide +kernel
theorem dX12_draw_22 : decode cX12_draw 22 = .ok (.invokestatic 199, 3) := by decide +kernel
theorem dX12_draw_25 : decode cX12_draw 25 = .ok (.ifCond .eq 13, 3) := by decide +kernel
theorem dX12_draw_28 : decode cX12_draw 28 = .ok (.aload_n 0, 1) := by decide +kernel
theorem dX12_draw_29 : decode cX12_draw 29 = .ok (.getfield 86, 3) := by decide +kernel
theorem dX12_draw_32 : decode cX12_draw 32 = .ok (.iload_n 1, 1) := by decide +kernel
theorem dX12_draw_33 : decode cX12_draw 33 = .ok (.laload, 1) := by decide +kernel
theorem dX12_draw_34 : decode cX12_draw 34 = .ok (.l2i, 1) := by decide +kernel
theorem dX12_draw_35 : decode cX12_draw 35 = .ok (.goto 4, 3) := by decide +kernel
theorem dX12_draw_38 : decode cX12_draw 38 = .ok (.iconst (-1), 1) := by decide +kernel
theorem dX12_draw_39 : decode cX12_draw 39 = .ok (.ireturn, 1) := by decide +kernel
set_option maxRecDepth 20000 in
theorem ggX12_tries_X12_isTalk : GoodIn wsX12_tries wsX12_isTalk := goodIn_r _ [7, 8, 292, 293, 294, 295, 296, 297, 298, 299, 300, 301, 302, 303, 304, 305, 306, 307, 308, 309, 310, 311, 312, 313, 314, 315, 316, 317, 318, 319, 320, 321, 322, 323, 324, 325, 326, 327, 328, 329, 330, 331, 332, 333, 334, 335, 336, 337, 338, 339, 340, 341, 342, 343, 344, 345, 346, 347, 348, 349, 350] (by decide +kernel) (by decide +kernel)
set_option maxRecDepth 20000 in
theorem gX12_tries_X12_isTalk : GoodIn wsX12_tries (wsV RX12 414 RX12 yX12_isTalk wsX12_isTalk) := goodIn_app (goodIn_of _ (by decide +kernel)) ggX12_tries_X12_isTalk
set_option maxRecDepth 20000 in
theorem ggX12_tries_X12_isIn : GoodIn wsX12_tries wsX12_isIn := goodIn_r _ [11] (by decide +kernel) (by decide +kernel)
set_option maxRecDepth 20000 in
theorem gX12_tries_X12_isIn : GoodIn wsX12_tries (va_wsS RX12 199 yX12_isIn wsX12_isIn) := goodIn_app (goodIn_of _ (by decide +kernel)) ggX12_tries_X12_isIn
set_option maxRecDepth 20000 in
theorem ggX12_tries_X12_goes : GoodIn wsX12_tries wsX12_goes := goodIn_r _ [15, 16, 17, 18, 19, 20, 21, 22, 23, 24, 25, 26, 27, 28, 29, 30, 6, 31, 32, 33, 34, 35, 36, 37, 38, 39, 40, 41, 42, 43, 44, 45, 46, 47, 48, 49, 50, 51, 52, 53, 54, 55, 56, 57, 58, 59, 60, 61, 62, 63, 64, 65, 66, 67, 68, 69, 70, 71, 72, 73, 74, 75, 76, 77, 78, 79, 80, 81, 82, 83, 84, 85, 86, 87, 88, 89, 90, 91, 92, 93, 94, 95, 96, 97, 98, 99, 100, 101, 102, 103, 104, 105, 106, 107, 108, 109, 110, 111, 112, 113, 114, 115, 116, 117, 118, 119, 120, 121, 122, 123, 124, 125, 126, 127, 128, 129, 130, 131, 132, 133, 134, 135, 136, 137, 138, 139, 140, 141, 142, 143, 144, 145, 146, 147, 148, 149, 150, 151, 152, 153, 154, 155, 156, 157, 158, 159, 160, 161, 162, 163, 164, 165, 166, 167, 168, 169, 170, 171, 172, 173, 174, 175, 176, 177, 178, 179, 180, 181, 182, 183, 184, 185, 186, 187, 188, 189, 190, 191, 192, 193, 194, 195, 196, 197, 198, 199, 200, 201, 202, 203, 204, 205, 206, 207, 208, 209, 210, 211, 212, 213, 214, 215, 216, 217, 218, 219, 220, 221, 222, 223, 224, 225, 226, 227, 228, 229, 230, 231, 232, 233, 234, 235, 236, 237, 238, 239, 240, 241, 242, 243, 244, 245, 246, 247, 248, 249, 250, 251, 252, 253, 254, 255, 256, 257, 258, 259, 260, 261, 262, 263, 264, 265, 266, 267, 268, 269, 270, 271, 272, 273, 274, 275, 276, 277, 278, 279, 280, 281, 282, 283, 284, 285, 286, 287, 288, 289, 290, 291, 292, 293, 294, 295, 296, 297, 298, 299, 300, 301, 302, 303, 304, 305, 306, 307, 308, 309, 310, 311, 312, 313, 314, 315, 316, 317, 318, 319, 320, 321, 322, 323, 324, 325, 326, 327, 328, 329, 330, 331, 332, 333, 334, 335, 336, 337, 338, 339, 340, 341, 342, 343, 344, 345, 346, 347, 348, 349, 350] (by decide +kernel) (by decide +kernel)
set_option maxRecDepth 20000 in
theorem gX12_tries_X12_goes : GoodIn wsX12_tries (wsV RX12 422 RX12 yX12_goes wsX12_goes) := goodIn_app (goodIn_of _ (by decide +kernel)) ggX12_tries_X12_goes
theorem dX12_tries_0 : decode cX12_tries 0 = .ok (.aload_n 0, 1) := by decide +kernel
theorem dX12_tries_1 : decode cX12_tries 1 = .ok (.iconst 0, 1) := by decide +kernel
theorem dX12_tries_2 : decode cX12_tries 2 = .ok (.putfield 101, 3) := by decide +kernel
theorem dX12_tries_5 : decode cX12_tries 5 = .ok (.aload_n 0, 1) := by decide +kernel
theorem dX12_tries_6 : decode cX12_tries 6 = .ok (.iload_n 1, 1) := by decide +kernel
theorem dX12_tries_7 : decode cX12_tries 7 = .ok (.invokevirtual 414, 3) := by decide +kernel
theorem dX12_tries_10 : decode cX12_tries 10 = .ok (.ifCond .eq 15, 3) := by decide +kernel
theorem dX12_tries_13 : decode cX12_tries 13 = .ok (.iload_n 2, 1) := by decide +kernel
theorem dX12_tries_14 : decode cX12_tries 14 = .ok (.i2l, 1) := by decide +kernel
theorem dX12_tries_15 : decode cX12_tries 15 = .ok (.lconst 1, 1) := by decide +kernel
theorem dX12_tries_16 : decode cX12_tries 16 = .ok (.ldc2_w 430, 3) := by decide +kernel
theorem dX12_tries_19 : decode cX12_tries 19 = .ok (.invokestatic 199, 3) := by decide +kernel
theorem dX12_tries_22 : decode cX12_tries 22 = .ok (.ifCond .ne 5, 3) := by decide +kernel
theorem dX12_tries_25 : decode cX12_tries 25 = .ok (.iconst (-1), 1) := by decide +kernel
theorem dX12_tries_26 : decode cX12_tries 26 = .ok (.ireturn, 1) := by decide +kernel
theorem dX12_tries_27 : decode cX12_tries 27 = .ok (.iconst 0, 1) := by decide +kernel
theorem dX12_tries_28 : decode cX12_tries 28 = .ok (.istore_n 3, 1) := by decide +kernel
theorem dX12_tries_29 : decode cX12_tries 29 = .ok (.iload_n 3, 1) := by decide +kernel
theorem dX12_tries_30 : decode cX12_tries 30 = .ok (.iload_n 2, 1) := by decide +kernel
theorem dX12_tries_31 : decode cX12_tries 31 = .ok (.if_icmp .ge 22, 3) := by decide +kernel
theorem dX12_tries_34 : decode cX12_tries 34 = .ok (.aload_n 0, 1) := by decide +kernel
theorem dX12_tries_35 : decode cX12_tries 35 = .ok (.iload_n 1, 1) := by decide +kernel
theorem dX12_tries_36 : decode cX12_tries 36 = .ok (.iconst 1, 1) := by decide +kernel
theorem dX12_tries_37 : decode cX12_tries 37 = .ok (.lconst 0, 1) := by decide +kernel
theorem dX12_tries_38 : decode cX12_tries 38 = .ok (.iload_n 3, 1) := by decide +kernel
theorem dX12_tries_39 : decode cX12_tries 39 = .ok (.invokevirtual 422, 3) := by decide +kernel
theorem dX12_tries_42 : decode cX12_tries 42 = .ok (.ifCond .eq 5, 3) := by decide +kernel
theorem dX12_tries_45 : decode cX12_tries 45 = .ok (.iload_n 3, 1) := by decide +kernel
theorem dX12_tries_46 : decode cX12_tries 46 = .ok (.ireturn, 1) := by decide +kernel
theorem dX12_tries_47 : decode cX12_tries 47 = .ok (.iinc 3 1, 3) := by decide +kernel
theorem dX12_tries_50 : decode cX12_tries 50 = .ok (.goto (-21), 3) := by decide +kernel
theorem dX12_tries_53 : decode cX12_tries 53 = .ok (.iconst (-1), 1) := by decide +kernel
theorem dX12_tries_54 : decode cX12_tries 54 = .ok (.ireturn, 1) := by decide +kernel
set_option maxRecDepth 20000 in
theorem ggX12_spent_X12_isTalk : GoodIn wsX12_spent wsX12_isTalk := goodIn_r _ [12, 13, 217, 218, 219, 220, 221, 222, 223, 224, 225, 226, 227, 228, 229, 230, 231, 232, 233, 234, 235, 236, 237, 238, 239, 240, 241, 242, 243, 244, 245, 246, 247, 248, 249, 250, 251, 252, 253, 254, 255, 256, 257, 258, 259, 260, 261, 262, 263, 264, 265, 266, 267, 268, 269, 270, 271, 272, 273, 274, 275] (by decide +kernel) (by decide +kernel)
set_option maxRecDepth 20000 in
theorem gX12_spent_X12_isTalk : GoodIn wsX12_spent (wsV RX12 414 RX12 yX12_isTalk wsX12_isTalk) := goodIn_app (goodIn_of _ (by decide +kernel)) ggX12_spent_X12_isTalk
set_option maxRecDepth 20000 in
theorem ggX12_spent_X12_isIn : GoodIn wsX12_spent wsX12_isIn := goodIn_r _ [16] (by decide +kernel) (by decide +kernel)
set_option maxRecDepth 20000 in
theorem gX12_spent_X12_isIn : GoodIn wsX12_spent (va_wsS RX12 199 yX12_isIn wsX12_isIn) := goodIn_app (goodIn_of _ (by decide +kernel)) ggX12_spent_X12_isIn
set_option maxRecDepth 20000 in
theorem ggX12_spent_X12_asksEnd : GoodIn wsX12_spent wsX12_asksEnd := goodIn_r _ [20, 4, 21, 22, 23, 11, 24, 25, 7, 26, 27, 28, 29, 30, 31, 32, 33, 34, 35, 36, 37, 38, 39, 40, 41, 42, 43, 44, 45, 46, 47, 48, 49, 50, 51, 52, 53, 54, 55, 56, 57, 58, 59, 60, 61, 62, 63, 64, 65, 66, 67, 68, 69, 70, 71, 72, 73, 74, 75, 76, 77, 78, 79, 80, 81, 82, 83, 84, 85, 86, 87, 88, 89, 90, 91, 92, 93, 94, 95, 96, 97, 98, 99, 100, 101, 102, 103, 104, 105, 106, 107, 108, 109, 110, 111, 112, 113, 114, 115, 116, 117, 118, 119, 120, 121, 122, 123, 124, 125, 126, 127, 128, 129, 130, 131, 132, 133, 134, 135, 136, 137, 138, 139, 140, 141, 142, 143, 144, 145, 146, 147, 148, 149, 150, 151, 152, 153, 154, 155, 156, 157, 158, 159, 160, 161, 162, 163, 164, 165, 166, 167, 168, 169, 170, 171, 172, 173, 174, 175, 176, 177, 178, 179, 180, 181, 182, 183, 184, 185, 186, 187, 188, 189, 190, 191, 192, 193, 194, 195, 196, 197, 198, 199, 200, 201, 202, 203, 204, 205, 206, 207, 208, 209, 210, 211, 212, 217, 218, 219, 220, 221, 222, 223, 224, 225, 226, 227, 228, 229, 230, 231, 232, 233, 234, 235, 236, 237, 238, 239, 240, 241, 242, 243, 244, 245, 246, 247, 248, 249, 250, 251, 252, 253, 254, 255, 256, 257, 258, 259, 260, 261, 262, 263, 264, 265, 266, 267, 268, 269, 270, 271, 272, 273, 274, 275] (by decide +kernel) (by decide +kernel)
set_option maxRecDepth 20000 in
theorem gX12_spent_X12_asksEnd : GoodIn wsX12_spent (wsV RX12 337 RX12 yX12_asksEnd wsX12_asksEnd) := goodIn_app (goodIn_of _ (by decide +kernel)) ggX12_spent_X12_asksEnd
set_option maxRecDepth 20000 in
theorem ggX12_spent_X12_asksSum : GoodIn wsX12_spent wsX12_asksSum := goodIn_r _ [216, 21, 22, 23, 11, 24, 25, 4, 7, 26, 27, 28, 29, 30, 31, 32, 33, 34, 35, 36, 37, 38, 39, 40, 41, 42, 43, 44, 45, 46, 47, 48, 49, 50, 51, 52, 53, 54, 55, 56, 57, 58, 59, 60, 61, 62, 63, 64, 65, 66, 67, 68, 69, 70, 71, 72, 73, 74, 75, 76, 77, 78, 79, 80, 81, 82, 83, 84, 85, 86, 87, 88, 89, 90, 91, 92, 93, 94, 95, 96, 97, 98, 99, 100, 101, 102, 103, 104, 105, 106, 107, 108, 109, 110, 111, 112, 113, 114, 115, 116, 117, 118, 119, 120, 121, 122, 123, 124, 125, 126, 127, 128, 129, 130, 131, 132, 133, 134, 135, 136, 137, 138, 139, 140, 141, 142, 143, 144, 145, 146, 147, 148, 149, 150, 151, 152, 153, 154, 155, 156, 157, 158, 159, 160, 161, 162, 163, 164, 165, 166, 167, 168, 169, 170, 171, 172, 173, 174, 175, 176, 177, 178, 179, 180, 181, 182, 183, 184, 185, 186, 187, 188, 189, 190, 191, 192, 193, 194, 195, 196, 197, 198, 199, 200, 201, 202, 203, 204, 205, 206, 207, 208, 209, 210, 211, 212, 217, 218, 219, 220, 221, 222, 223, 224, 225, 226, 227, 228, 229, 230, 231, 232, 233, 234, 235, 236, 237, 238, 239, 240, 241, 242, 243, 244, 245, 246, 247, 248, 249, 250, 251, 252, 253, 254, 255, 256, 257, 258, 259, 260, 261, 262, 263, 264, 265, 266, 267, 268, 269, 270, 271, 272, 273, 274, 275] (by decide +kernel) (by decide +kernel)
set_option maxRecDepth 20000 in
theorem gX12_spent_X12_asksSum : GoodIn wsX12_spent (wsV RX12 372 RX12 yX12_asksSum wsX12_asksSum) := goodIn_app (goodIn_of _ (by decide +kernel)) ggX12_spent_X12_asksSum
theorem dX12_spent_0 : decode cX12_spent 0 = .ok (.aload_n 0, 1) := by decide +kernel
theorem dX12_spent_1 : decode cX12_spent 1 = .ok (.iconst 0, 1) := by decide +kernel
theorem dX12_spent_2 : decode cX12_spent 2 = .ok (.putfield 101, 3) := by decide +kernel
theorem dX12_spent_5 : decode cX12_spent 5 = .ok (.aload_n 0, 1) := by decide +kernel
theorem dX12_spent_6 : decode cX12_spent 6 = .ok (.iload_n 1, 1) := by decide +kernel
theorem dX12_spent_7 : decode cX12_spent 7 = .ok (.invokevirtual 414, 3) := by decide +kernel
theorem dX12_spent_10 : decode cX12_spent 10 = .ok (.ifCond .eq 13, 3) := by decide +kernel
theorem dX12_spent_13 : decode cX12_spent 13 = .ok (.iload_n 2, 1) := by decide +kernel
theorem dX12_spent_14 : decode cX12_spent 14 = .ok (.i2l, 1) := by decide +kernel
theorem dX12_spent_15 : decode cX12_spent 15 = .ok (.lconst 0, 1) := by decide +kernel
theorem dX12_spent_16 : decode cX12_spent 16 = .ok (.lconst 1, 1) := by decide +kernel
theorem dX12_spent_17 : decode cX12_spent 17 = .ok (.invokestatic 199, 3) := by decide +kernel
theorem dX12_spent_20 : decode cX12_spent 20 = .ok (.ifCond .ne 5, 3) := by decide +kernel
theorem dX12_spent_23 : decode cX12_spent 23 = .ok (.iconst (-1), 1) := by decide +kernel
theorem dX12_spent_24 : decode cX12_spent 24 = .ok (.ireturn, 1) := by decide +kernel
theorem dX12_spent_25 : decode cX12_spent 25 = .ok (.aload_n 0, 1) := by decide +kernel
theorem dX12_spent_26 : decode cX12_spent 26 = .ok (.getfield 65, 3) := by decide +kernel
theorem dX12_spent_29 : decode cX12_spent 29 = .ok (.iload_n 1, 1) := by decide +kernel
theorem dX12_spent_30 : decode cX12_spent 30 = .ok (.iaload, 1) := by decide +kernel
theorem dX12_spent_31 : decode cX12_spent 31 = .ok (.istore_n 3, 1) := by decide +kernel
theorem dX12_spent_32 : decode cX12_spent 32 = .ok (.iload_n 2, 1) := by decide +kernel
theorem dX12_spent_33 : decode cX12_spent 33 = .ok (.iconst 1, 1) := by decide +kernel
theorem dX12_spent_34 : decode cX12_spent 34 = .ok (.if_icmp .ne 17, 3) := by decide +kernel
theorem dX12_spent_37 : decode cX12_spent 37 = .ok (.aload_n 0, 1) := by decide +kernel
theorem dX12_spent_38 : decode cX12_spent 38 = .ok (.getfield 29, 3) := by decide +kernel
theorem dX12_spent_41 : decode cX12_spent 41 = .ok (.iload_n 3, 1) := by decide +kernel
theorem dX12_spent_42 : decode cX12_spent 42 = .ok (.iaload, 1) := by decide +kernel
theorem dX12_spent_43 : decode cX12_spent 43 = .ok (.aload_n 0, 1) := by decide +kernel
theorem dX12_spent_44 : decode cX12_spent 44 = .ok (.getfield 23, 3) := by decide +kernel
theorem dX12_spent_47 : decode cX12_spent 47 = .ok (.iload_n 3, 1) := by decide +kernel
theorem dX12_spent_48 : decode cX12_spent 48 = .ok (.iaload, 1) := by decide +kernel
theorem dX12_spent_49 : decode cX12_spent 49 = .ok (.ishl, 1) := by decide +kernel
theorem dX12_spent_50 : decode cX12_spent 50 = .ok (.ireturn, 1) := by decide +kernel
theorem dX12_spent_51 : decode cX12_spent 51 = .ok (.aload_n 0, 1) := by decide +kernel
theorem dX12_spent_52 : decode cX12_spent 52 = .ok (.aload_n 0, 1) := by decide +kernel
theorem dX12_spent_53 : decode cX12_spent 53 = .ok (.getfield 71, 3) := by decide +kernel
theorem dX12_spent_56 : decode cX12_spent 56 = .ok (.iload_n 1, 1) := by decide +kernel
theorem dX12_spent_57 : decode cX12_spent 57 = .ok (.iaload, 1) := by decide +kernel
theorem dX12_spent_58 : decode cX12_spent 58 = .ok (.iload_n 3, 1) := by decide +kernel
theorem dX12_spent_59 : decode cX12_spent 59 = .ok (.aload_n 0, 1) := by decide +kernel
theorem dX12_spent_60 : decode cX12_spent 60 = .ok (.getfield 68, 3) := by decide +kernel
theorem dX12_spent_63 : decode cX12_spent 63 = .ok (.iload_n 1, 1) := by decide +kernel
theorem dX12_spent_64 : decode cX12_spent 64 = .ok (.iaload, 1) := by decide +kernel
theorem dX12_spent_65 : decode cX12_spent 65 = .ok (.invokevirtual 337, 3) := by decide +kernel
theorem dX12_spent_68 : decode cX12_spent 68 = .ok (.ifCond .eq 12, 3) := by decide +kernel
theorem dX12_spent_71 : decode cX12_spent 71 = .ok (.aload_n 0, 1) := by decide +kernel
theorem dX12_spent_72 : decode cX12_spent 72 = .ok (.getfield 29, 3) := by decide +kernel
theorem dX12_spent_75 : decode cX12_spent 75 = .ok (.iload_n 3, 1) := by decide +kernel
theorem dX12_spent_76 : decode cX12_spent 76 = .ok (.iaload, 1) := by decide +kernel
theorem dX12_spent_77 : decode cX12_spent 77 = .ok (.goto 4, 3) := by decide +kernel
theorem dX12_spent_80 : decode cX12_spent 80 = .ok (.iconst 0, 1) := by decide +kernel
theorem dX12_spent_81 : decode cX12_spent 81 = .ok (.istore 4, 2) := by decide +kernel
theorem dX12_spent_83 : decode cX12_spent 83 = .ok (.iconst 0, 1) := by decide +kernel
theorem dX12_spent_84 : decode cX12_spent 84 = .ok (.istore 5, 2) := by decide +kernel
theorem dX12_spent_86 : decode cX12_spent 86 = .ok (.iload 5, 2) := by decide +kernel
theorem dX12_spent_88 : decode cX12_spent 88 = .ok (.aload_n 0, 1) := by decide +kernel
theorem dX12_spent_89 : decode cX12_spent 89 = .ok (.getfield 23, 3) := by decide +kernel
theorem dX12_spent_92 : decode cX12_spent 92 = .ok (.iload_n 3, 1) := by decide +kernel
theorem dX12_spent_93 : decode cX12_spent 93 = .ok (.iaload, 1) := by decide +kernel
theorem dX12_spent_94 : decode cX12_spent 94 = .ok (.if_icmp .ge 65, 3) := by decide +kernel
theorem dX12_spent_97 : decode cX12_spent 97 = .ok (.aload_n 0, 1) := by decide +kernel
theorem dX12_spent_98 : decode cX12_spent 98 = .ok (.getfield 26, 3) := by decide +kernel
theorem dX12_spent_101 : decode cX12_spent 101 = .ok (.bipush 6, 2) := by decide +kernel
theorem dX12_spent_103 : decode cX12_spent 103 = .ok (.iload_n 3, 1) := by decide +kernel
theorem dX12_spent_104 : decode cX12_spent 104 = .ok (.imul, 1) := by decide +kernel
theorem dX12_spent_105 : decode cX12_spent 105 = .ok (.iload 5, 2) := by decide +kernel
theorem dX12_spent_107 : decode cX12_spent 107 = .ok (.iadd, 1) := by decide +kernel
theorem dX12_spent_108 : decode cX12_spent 108 = .ok (.iaload, 1) := by decide +kernel
theorem dX12_spent_109 : decode cX12_spent 109 = .ok (.iconst 1, 1) := by decide +kernel
theorem dX12_spent_110 : decode cX12_spent 110 = .ok (.iadd, 1) := by decide +kernel
theorem dX12_spent_111 : decode cX12_spent 111 = .ok (.istore 6, 2) := by decide +kernel
theorem dX12_spent_113 : decode cX12_spent 113 = .ok (.iload 4, 2) := by decide +kernel
theorem dX12_spent_115 : decode cX12_spent 115 = .ok (.iconst 2, 1) := by decide +kernel
theorem dX12_spent_116 : decode cX12_spent 116 = .ok (.iload 6, 2) := by decide +kernel
theorem dX12_spent_118 : decode cX12_spent 118 = .ok (.imul, 1) := by decide +kernel
theorem dX12_spent_119 : decode cX12_spent 119 = .ok (.iload 6, 2) := by decide +kernel
theorem dX12_spent_121 : decode cX12_spent 121 = .ok (.imul, 1) := by decide +kernel
theorem dX12_spent_122 : decode cX12_spent 122 = .ok (.aload_n 0, 1) := by decide +kernel
theorem dX12_spent_123 : decode cX12_spent 123 = .ok (.aload_n 0, 1) := by decide +kernel
theorem dX12_spent_124 : decode cX12_spent 124 = .ok (.getfield 71, 3) := by decide +kernel
theorem dX12_spent_127 : decode cX12_spent 127 = .ok (.iload_n 1, 1) := by decide +kernel
theorem dX12_spent_128 : decode cX12_spent 128 = .ok (.iaload, 1) := by decide +kernel
theorem dX12_spent_129 : decode cX12_spent 129 = .ok (.iload_n 3, 1) := by decide +kernel
theorem dX12_spent_130 : decode cX12_spent 130 = .ok (.aload_n 0, 1) := by decide +kernel
theorem dX12_spent_131 : decode cX12_spent 131 = .ok (.getfield 68, 3) := by decide +kernel
theorem dX12_spent_134 : decode cX12_spent 134 = .ok (.iload_n 1, 1) := by decide +kernel
theorem dX12_spent_135 : decode cX12_spent 135 = .ok (.iaload, 1) := by decide +kernel
theorem dX12_spent_136 : decode cX12_spent 136 = .ok (.iload 5, 2) := by decide +kernel
theorem dX12_spent_138 : decode cX12_spent 138 = .ok (.invokevirtual 372, 3) := by decide +kernel
theorem dX12_spent_141 : decode cX12_spent 141 = .ok (.ifCond .eq 7, 3) := by decide +kernel
theorem dX12_spent_144 : decode cX12_spent 144 = .ok (.iconst 1, 1) := by decide +kernel
theorem dX12_spent_145 : decode cX12_spent 145 = .ok (.goto 4, 3) := by decide +kernel
theorem dX12_spent_148 : decode cX12_spent 148 = .ok (.iconst 0, 1) := by decide +kernel
theorem dX12_spent_149 : decode cX12_spent 149 = .ok (.iadd, 1) := by decide +kernel
theorem dX12_spent_150 : decode cX12_spent 150 = .ok (.iadd, 1) := by decide +kernel
theorem dX12_spent_151 : decode cX12_spent 151 = .ok (.istore 4, 2) := by decide +kernel
theorem dX12_spent_153 : decode cX12_spent 153 = .ok (.iinc 5 1, 3) := by decide +kernel
theorem dX12_spent_156 : decode cX12_spent 156 = .ok (.goto (-70), 3) := by decide +kernel
theorem dX12_spent_159 : decode cX12_spent 159 = .ok (.iload 4, 2) := by decide +kernel
theorem dX12_spent_161 : decode cX12_spent 161 = .ok (.ireturn, 1) := by decide +kernel
set_option maxRecDepth 20000 in
theorem ggX12_believed_X12_endsWell : GoodIn wsX12_believed wsX12_endsWell := goodIn_r _ [10, 1, 3, 4, 2, 11, 5, 12, 13, 14, 9, 15, 16, 17, 18, 19, 20, 21, 22, 23, 24, 25, 26, 27, 28, 29, 30, 31, 32, 33, 34, 35, 36, 37, 38, 39, 40, 41, 42, 43, 44, 45, 46, 47, 48, 49, 50, 51, 52, 53, 54, 55, 56, 57, 58, 59, 60, 61, 62, 63, 64, 65, 66, 67, 68, 69, 70, 71, 72, 73, 74, 75, 76, 77, 78, 79, 80, 81, 82, 83, 84, 85, 86, 87, 88, 89, 90, 91, 92, 93, 94, 95, 96, 97, 98, 99, 100, 101, 102, 103, 104, 105, 106, 107, 108, 109, 110, 111, 112, 113, 114, 115, 116, 117, 118, 119, 120, 121, 122, 123, 124, 125, 126, 127, 128, 129, 130, 131, 132, 133, 134, 135, 136, 137, 138, 139, 140, 141, 142, 143, 144, 145, 146, 147, 148, 149, 150, 151, 152, 153, 154, 155, 156, 157, 158, 159, 160, 161, 162, 163, 164, 165, 166, 167, 168, 169, 170, 171, 172, 173, 174, 175, 176, 177, 178, 179, 180, 181, 182, 183, 184, 185, 186, 187, 188, 189, 190, 191, 192, 193, 194, 195, 196, 197, 198, 199, 200, 201, 202, 203, 204, 205, 206, 207, 208, 209, 210, 211, 212, 213, 214, 215, 216, 217, 218, 261, 262, 263, 264, 265, 266, 267, 268, 269, 270, 271, 272, 273, 274, 275, 276, 277, 278, 279, 280, 281, 282, 283, 284, 285, 286, 287, 288, 289, 290, 291, 292, 293, 294, 295, 296, 297, 298, 299, 300, 301, 302, 303, 304, 305, 306, 307, 308, 309, 310, 311, 312, 313, 314, 315, 316, 317, 318, 319] (by decide +kernel) (by decide +kernel)
set_option maxRecDepth 20000 in
theorem gX12_believed_X12_endsWell : GoodIn wsX12_believed (wsV RX12 387 RX12 yX12_endsWell wsX12_endsWell) := goodIn_app (goodIn_of _ (by decide +kernel)) ggX12_believed_X12_endsWell
set_option maxRecDepth 20000 in
theorem ggX12_believed_X12_speaks : GoodIn wsX12_believed wsX12_speaks := goodIn_r _ [222, 1, 4, 21, 20, 5, 2, 223, 224, 225, 226, 227, 9, 228, 11, 229, 230, 231, 232, 209, 210, 211, 212, 213, 214, 215, 216, 217, 218, 22, 23, 24, 25, 26, 27, 28, 29, 30, 31, 32, 33, 34, 35, 36, 37, 38, 39, 40, 41, 42, 43, 44, 45, 46, 47, 48, 49, 50, 51, 52, 53, 54, 55, 56, 57, 58, 59, 60, 61, 62, 63, 64, 65, 66, 67, 68, 69, 70, 71, 72, 73, 74, 75, 76, 77, 78, 79, 80, 81, 82, 83, 84, 85, 86, 87, 88, 89, 90, 91, 92, 93, 94, 95, 96, 97, 98, 99, 100, 101, 102, 103, 104, 105, 106, 107, 108, 109, 110, 111, 112, 113, 114, 115, 116, 117, 118, 119, 120, 121, 122, 123, 124, 125, 126, 127, 128, 129, 130, 131, 132, 133, 134, 135, 136, 137, 138, 139, 140, 141, 142, 143, 144, 145, 146, 147, 148, 149, 150, 151, 152, 153, 154, 155, 156, 157, 158, 159, 160, 161, 162, 163, 164, 165, 166, 167, 168, 169, 170, 171, 172, 173, 174, 175, 176, 177, 178, 179, 180, 181, 182, 183, 184, 185, 186, 187, 188, 189, 190, 191, 192, 193, 194, 195, 196, 197, 198, 199, 200, 201, 202, 203, 204, 205, 206, 207, 208, 261, 262, 263, 264, 265, 266, 267, 268, 269, 270, 271, 272, 273, 274, 275, 276, 277, 278, 279, 280, 281, 282, 283, 284, 285, 286, 287, 288, 289, 290, 291, 292, 293, 294, 295, 296, 297, 298, 299, 300, 301, 302, 303, 304, 305, 306, 307, 308, 309, 310, 311, 312, 313, 314, 315, 316, 317, 318, 319] (by decide +kernel) (by decide +kernel)
set_option maxRecDepth 20000 in
theorem gX12_believed_X12_speaks : GoodIn wsX12_believed (wsV RX12 368 RX12 yX12_speaks wsX12_speaks) := goodIn_app (goodIn_of _ (by decide +kernel)) ggX12_believed_X12_speaks
set_option maxRecDepth 20000 in
theorem ggX12_believed_X12_asksSum : GoodIn wsX12_believed wsX12_asksSum := goodIn_r _ [236, 16, 17, 18, 9, 19, 20, 2, 21, 22, 23, 24, 25, 26, 27, 28, 29, 30, 31, 32, 33, 34, 35, 36, 37, 38, 39, 40, 41, 42, 43, 44, 45, 46, 47, 48, 49, 50, 51, 52, 53, 54, 55, 56, 57, 58, 59, 60, 61, 62, 63, 64, 65, 66, 67, 68, 69, 70, 71, 72, 73, 74, 75, 76, 77, 78, 79, 80, 81, 82, 83, 84, 85, 86, 87, 88, 89, 90, 91, 92, 93, 94, 95, 96, 97, 98, 99, 100, 101, 102, 103, 104, 105, 106, 107, 108, 109, 110, 111, 112, 113, 114, 115, 116, 117, 118, 119, 120, 121, 122, 123, 124, 125, 126, 127, 128, 129, 130, 131, 132, 133, 134, 135, 136, 137, 138, 139, 140, 141, 142, 143, 144, 145, 146, 147, 148, 149, 150, 151, 152, 153, 154, 155, 156, 157, 158, 159, 160, 161, 162, 163, 164, 165, 166, 167, 168, 169, 170, 171, 172, 173, 174, 175, 176, 177, 178, 179, 180, 181, 182, 183, 184, 185, 186, 187, 188, 189, 190, 191, 192, 193, 194, 195, 196, 197, 198, 199, 200, 201, 202, 203, 204, 205, 206, 207, 208, 261, 262, 263, 264, 265, 266, 267, 268, 269, 270, 271, 272, 273, 274, 275, 276, 277, 278, 279, 280, 281, 282, 283, 284, 285, 286, 287, 288, 289, 290, 291, 292, 293, 294, 295, 296, 297, 298, 299, 300, 301, 302, 303, 304, 305, 306, 307, 308, 309, 310, 311, 312, 313, 314, 315, 316, 317, 318, 319] (by decide +kernel) (by decide +kernel)
set_option maxRecDepth 20000 in
theorem gX12_believed_X12_asksSum : GoodIn wsX12_believed (wsV RX12 372 RX12 yX12_asksSum wsX12_asksSum) := goodIn_app (goodIn_of _ (by decide +kernel)) ggX12_believed_X12_asksSum
set_option maxRecDepth 20000 in
theorem ggX12_believed_X12_sumsUp : GoodIn wsX12_believed wsX12_sumsUp := goodIn_r _ [240, 21, 1, 223, 4, 261, 262, 263, 264, 265, 266, 267, 268, 269, 270, 271, 272, 273, 274, 275, 276, 277, 278, 279, 280, 281, 282, 283, 284, 285, 286, 287, 288, 289, 290, 291, 292, 293, 294, 295, 296, 297, 298, 299, 300, 301, 302, 303, 304, 305, 306, 307, 308, 309, 310, 311, 312, 313, 314, 315, 316, 317, 318, 319] (by decide +kernel) (by decide +kernel)
set_option maxRecDepth 20000 in
theorem gX12_believed_X12_sumsUp : GoodIn wsX12_believed (wsV RX12 376 RX12 yX12_sumsUp wsX12_sumsUp) := goodIn_app (goodIn_of _ (by decide +kernel)) ggX12_believed_X12_sumsUp
set_option maxRecDepth 20000 in
theorem ggX12_believed_X12_draws : GoodIn wsX12_believed wsX12_draws := goodIn_r _ [244, 181, 182, 90, 183, 184, 185, 186, 16, 17, 18, 9, 19, 20, 2, 21, 22, 23, 24, 25, 26, 27, 28, 29, 30, 31, 32, 33, 34, 35, 36, 37, 38, 39, 40, 41, 42, 43, 44, 45, 46, 47, 48, 49, 50, 51, 52, 53, 54, 55, 56, 57, 58, 59, 60, 61, 62, 63, 64, 65, 66, 67, 68, 69, 70, 71, 72, 73, 74, 75, 76, 77, 78, 79, 80, 81, 82, 83, 84, 85, 86, 87, 88, 89, 91, 92, 93, 94, 95, 96, 97, 98, 99, 100, 101, 102, 103, 104, 105, 106, 107, 108, 109, 110, 111, 112, 113, 114, 115, 116, 117, 118, 119, 120, 121, 122, 123, 124, 125, 126, 127, 128, 129, 130, 131, 132, 133, 134, 135, 136, 137, 138, 139, 140, 141, 142, 143, 144, 145, 146, 147, 148, 149, 150, 151, 152, 153, 154, 155, 156, 157, 158, 159, 160, 161, 162, 163, 164, 165, 166, 167, 168, 169, 170, 171, 172, 173, 174, 175, 176, 177, 178, 179, 180, 187, 188, 189, 190, 191, 192, 193, 194, 195, 196, 197, 198, 199, 200, 201, 202, 203, 204, 205, 206, 207, 208, 261, 262, 263, 264, 265, 266, 267, 268, 269, 270, 271, 272, 273, 274, 275, 276, 277, 278, 279, 280, 281, 282, 283, 284, 285, 286, 287, 288, 289, 290, 291, 292, 293, 294, 295, 296, 297, 298, 299, 300, 301, 302, 303, 304, 305, 306, 307, 308, 309, 310, 311, 312, 313, 314, 315, 316, 317, 318, 319] (by decide +kernel) (by decide +kernel)
set_option maxRecDepth 20000 in
theorem gX12_believed_X12_draws : GoodIn wsX12_believed (wsV RX12 380 RX12 yX12_draws wsX12_draws) := goodIn_app (goodIn_of _ (by decide +kernel)) ggX12_believed_X12_draws
set_option maxRecDepth 20000 in
theorem ggX12_believed_X12_nextClaim : GoodIn wsX12_believed wsX12_nextClaim := goodIn_r _ [248, 21, 1, 249, 223, 5, 4, 250, 251, 252, 9, 253, 254, 216, 217, 218, 255, 256, 257, 261, 262, 263, 264, 265, 266, 267, 268, 269, 270, 271, 272, 273, 274, 275, 276, 277, 278, 279, 280, 281, 282, 283, 284, 285, 286, 287, 288, 289, 290, 291, 292, 293, 294, 295, 296, 297, 298, 299, 300, 301, 302, 303, 304, 305, 306, 307, 308, 309, 310, 311, 312, 313, 314, 315, 316, 317, 318, 319] (by decide +kernel) (by decide +kernel)
set_option maxRecDepth 20000 in
theorem gX12_believed_X12_nextClaim : GoodIn wsX12_believed (wsV RX12 384 RX12 yX12_nextClaim wsX12_nextClaim) := goodIn_app (goodIn_of _ (by decide +kernel)) ggX12_believed_X12_nextClaim
set_option maxRecDepth 20000 in
theorem ggX12_believed_X12_believed : GoodIn wsX12_believed wsX12_believed := goodIn_r _ [0, 1, 2, 3, 4, 5, 6, 7, 8, 9, 10, 11, 12, 13, 14, 15, 16, 17, 18, 19, 20, 21, 22, 23, 24, 25, 26, 27, 28, 29, 30, 31, 32, 33, 34, 35, 36, 37, 38, 39, 40, 41, 42, 43, 44, 45, 46, 47, 48, 49, 50, 51, 52, 53, 54, 55, 56, 57, 58, 59, 60, 61, 62, 63, 64, 65, 66, 67, 68, 69, 70, 71, 72, 73, 74, 75, 76, 77, 78, 79, 80, 81, 82, 83, 84, 85, 86, 87, 88, 89, 90, 91, 92, 93, 94, 95, 96, 97, 98, 99, 100, 101, 102, 103, 104, 105, 106, 107, 108, 109, 110, 111, 112, 113, 114, 115, 116, 117, 118, 119, 120, 121, 122, 123, 124, 125, 126, 127, 128, 129, 130, 131, 132, 133, 134, 135, 136, 137, 138, 139, 140, 141, 142, 143, 144, 145, 146, 147, 148, 149, 150, 151, 152, 153, 154, 155, 156, 157, 158, 159, 160, 161, 162, 163, 164, 165, 166, 167, 168, 169, 170, 171, 172, 173, 174, 175, 176, 177, 178, 179, 180, 181, 182, 183, 184, 185, 186, 187, 188, 189, 190, 191, 192, 193, 194, 195, 196, 197, 198, 199, 200, 201, 202, 203, 204, 205, 206, 207, 208, 209, 210, 211, 212, 213, 214, 215, 216, 217, 218, 219, 220, 221, 222, 223, 224, 225, 226, 227, 228, 229, 230, 231, 232, 233, 234, 235, 236, 237, 238, 239, 240, 241, 242, 243, 244, 245, 246, 247, 248, 249, 250, 251, 252, 253, 254, 255, 256, 257, 258, 259, 260, 261, 262, 263, 264, 265, 266, 267, 268, 269, 270, 271, 272, 273, 274, 275, 276, 277, 278, 279, 280, 281, 282, 283, 284, 285, 286, 287, 288, 289, 290, 291, 292, 293, 294, 295, 296, 297, 298, 299, 300, 301, 302, 303, 304, 305, 306, 307, 308, 309, 310, 311, 312, 313, 314, 315, 316, 317, 318, 319] (by decide +kernel) (by decide +kernel)
set_option maxRecDepth 20000 in
theorem gX12_believed_X12_believed : GoodIn wsX12_believed (wsV RX12 432 RX12 yX12_believed wsX12_believed) := goodIn_app (goodIn_of _ (by decide +kernel)) ggX12_believed_X12_believed
theorem dX12_believed_0 : decode cX12_believed 0 = .ok (.aload_n 0, 1) := by decide +kernel
theorem dX12_believed_1 : decode cX12_believed 1 = .ok (.getfield 65, 3) := by decide +kernel
theorem dX12_believed_4 : decode cX12_believed 4 = .ok (.iload_n 1, 1) := by decide +kernel
theorem dX12_believed_5 : decode cX12_believed 5 = .ok (.iaload, 1) := by decide +kernel
theorem dX12_believed_6 : decode cX12_believed 6 = .ok (.istore 6, 2) := by decide +kernel
theorem dX12_believed_8 : decode cX12_believed 8 = .ok (.iload_n 3, 1) := by decide +kernel
theorem dX12_believed_9 : decode cX12_believed 9 = .ok (.aload_n 0, 1) := by decide +kernel
theorem dX12_believed_10 : decode cX12_believed 10 = .ok (.getfield 23, 3) := by decide +kernel
theorem dX12_believed_13 : decode cX12_believed 13 = .ok (.iload 6, 2) := by decide +kernel
theorem dX12_believed_15 : decode cX12_believed 15 = .ok (.iaload, 1) := by decide +kernel
theorem dX12_believed_16 : decode cX12_believed 16 = .ok (.if_icmp .ne 19, 3) := by decide +kernel
theorem dX12_believed_19 : decode cX12_believed 19 = .ok (.aload_n 0, 1) := by decide +kernel
theorem dX12_believed_20 : decode cX12_believed 20 = .ok (.iload_n 1, 1) := by decide +kernel
theorem dX12_believed_21 : decode cX12_believed 21 = .ok (.lload 4, 2) := by decide +kernel
theorem dX12_believed_23 : decode cX12_believed 23 = .ok (.invokevirtual 387, 3) := by decide +kernel
theorem dX12_believed_26 : decode cX12_believed 26 = .ok (.ifCond .eq 7, 3) := by decide +kernel
theorem dX12_believed_29 : decode cX12_believed 29 = .ok (.iconst 1, 1) := by decide +kernel
theorem dX12_believed_30 : decode cX12_believed 30 = .ok (.goto 4, 3) := by decide +kernel
theorem dX12_believed_33 : decode cX12_believed 33 = .ok (.iconst 0, 1) := by decide +kernel
theorem dX12_believed_34 : decode cX12_believed 34 = .ok (.ireturn, 1) := by decide +kernel
theorem dX12_believed_35 : decode cX12_believed 35 = .ok (.aload_n 0, 1) := by decide +kernel
theorem dX12_believed_36 : decode cX12_believed 36 = .ok (.iload_n 1, 1) := by decide +kernel
theorem dX12_believed_37 : decode cX12_believed 37 = .ok (.iload_n 3, 1) := by decide +kernel
theorem dX12_believed_38 : decode cX12_believed 38 = .ok (.lload 4, 2) := by decide +kernel
theorem dX12_believed_40 : decode cX12_believed 40 = .ok (.iload_n 2, 1) := by decide +kernel
theorem dX12_believed_41 : decode cX12_believed 41 = .ok (.invokevirtual 368, 3) := by decide +kernel
theorem dX12_believed_44 : decode cX12_believed 44 = .ok (.aload_n 0, 1) := by decide +kernel
theorem dX12_believed_45 : decode cX12_believed 45 = .ok (.aload_n 0, 1) := by decide +kernel
theorem dX12_believed_46 : decode cX12_believed 46 = .ok (.getfield 71, 3) := by decide +kernel
theorem dX12_believed_49 : decode cX12_believed 49 = .ok (.iload_n 1, 1) := by decide +kernel
theorem dX12_believed_50 : decode cX12_believed 50 = .ok (.iaload, 1) := by decide +kernel
theorem dX12_believed_51 : decode cX12_believed 51 = .ok (.iload 6, 2) := by decide +kernel
theorem dX12_believed_53 : decode cX12_believed 53 = .ok (.aload_n 0, 1) := by decide +kernel
theorem dX12_believed_54 : decode cX12_believed 54 = .ok (.getfield 68, 3) := by decide +kernel
theorem dX12_believed_57 : decode cX12_believed 57 = .ok (.iload_n 1, 1) := by decide +kernel
theorem dX12_believed_58 : decode cX12_believed 58 = .ok (.iaload, 1) := by decide +kernel
theorem dX12_believed_59 : decode cX12_believed 59 = .ok (.iload_n 3, 1) := by decide +kernel
theorem dX12_believed_60 : decode cX12_believed 60 = .ok (.invokevirtual 372, 3) := by decide +kernel
theorem dX12_believed_63 : decode cX12_believed 63 = .ok (.ifCond .eq 16, 3) := by decide +kernel
theorem dX12_believed_66 : decode cX12_believed 66 = .ok (.aload_n 0, 1) := by decide +kernel
theorem dX12_believed_67 : decode cX12_believed 67 = .ok (.iload_n 1, 1) := by decide +kernel
theorem dX12_believed_68 : decode cX12_believed 68 = .ok (.iload_n 3, 1) := by decide +kernel
theorem dX12_believed_69 : decode cX12_believed 69 = .ok (.lload 4, 2) := by decide +kernel
theorem dX12_believed_71 : decode cX12_believed 71 = .ok (.invokevirtual 376, 3) := by decide +kernel
theorem dX12_believed_74 : decode cX12_believed 74 = .ok (.ifCond .ne 5, 3) := by decide +kernel
theorem dX12_believed_77 : decode cX12_believed 77 = .ok (.iconst 0, 1) := by decide +kernel
theorem dX12_believed_78 : decode cX12_believed 78 = .ok (.ireturn, 1) := by decide +kernel
theorem dX12_believed_79 : decode cX12_believed 79 = .ok (.iconst 0, 1) := by decide +kernel
theorem dX12_believed_80 : decode cX12_believed 80 = .ok (.istore 7, 2) := by decide +kernel
theorem dX12_believed_82 : decode cX12_believed 82 = .ok (.aload_n 0, 1) := by decide +kernel
theorem dX12_believed_83 : decode cX12_believed 83 = .ok (.aload_n 0, 1) := by decide +kernel
theorem dX12_believed_84 : decode cX12_believed 84 = .ok (.getfield 71, 3) := by decide +kernel
theorem dX12_believed_87 : decode cX12_believed 87 = .ok (.iload_n 1, 1) := by decide +kernel
theorem dX12_believed_88 : decode cX12_believed 88 = .ok (.iaload, 1) := by decide +kernel
theorem dX12_believed_89 : decode cX12_believed 89 = .ok (.iload 6, 2) := by decide +kernel
theorem dX12_believed_91 : decode cX12_believed 91 = .ok (.aload_n 0, 1) := by decide +kernel
theorem dX12_believed_92 : decode cX12_believed 92 = .ok (.getfield 68, 3) := by decide +kernel
theorem dX12_believed_95 : decode cX12_believed 95 = .ok (.iload_n 1, 1) := by decide +kernel
theorem dX12_believed_96 : decode cX12_believed 96 = .ok (.iaload, 1) := by decide +kernel
theorem dX12_believed_97 : decode cX12_believed 97 = .ok (.iload_n 3, 1) := by decide +kernel
theorem dX12_believed_98 : decode cX12_believed 98 = .ok (.invokevirtual 380, 3) := by decide +kernel
theorem dX12_believed_101 : decode cX12_believed 101 = .ok (.istore 8, 2) := by decide +kernel
theorem dX12_believed_103 : decode cX12_believed 103 = .ok (.iconst 0, 1) := by decide +kernel
theorem dX12_believed_104 : decode cX12_believed 104 = .ok (.istore 9, 2) := by decide +kernel
theorem dX12_believed_106 : decode cX12_believed 106 = .ok (.iload 9, 2) := by decide +kernel
theorem dX12_believed_108 : decode cX12_believed 108 = .ok (.iload 8, 2) := by decide +kernel
theorem dX12_believed_110 : decode cX12_believed 110 = .ok (.if_icmp .ge 38, 3) := by decide +kernel
theorem dX12_believed_113 : decode cX12_believed 113 = .ok (.aload_n 0, 1) := by decide +kernel
theorem dX12_believed_114 : decode cX12_believed 114 = .ok (.getfield 77, 3) := by decide +kernel
theorem dX12_believed_117 : decode cX12_believed 117 = .ok (.iload_n 3, 1) := by decide +kernel
theorem dX12_believed_118 : decode cX12_believed 118 = .ok (.iload 9, 2) := by decide +kernel
theorem dX12_believed_120 : decode cX12_believed 120 = .ok (.i2l, 1) := by decide +kernel
theorem dX12_believed_121 : decode cX12_believed 121 = .ok (.lastore, 1) := by decide +kernel
theorem dX12_believed_122 : decode cX12_believed 122 = .ok (.iload 7, 2) := by decide +kernel
theorem dX12_believed_124 : decode cX12_believed 124 = .ok (.aload_n 0, 1) := by decide +kernel
theorem dX12_believed_125 : decode cX12_believed 125 = .ok (.iload_n 1, 1) := by decide +kernel
theorem dX12_believed_126 : decode cX12_believed 126 = .ok (.iload_n 2, 1) := by decide +kernel
theorem dX12_believed_127 : decode cX12_believed 127 = .ok (.iload_n 3, 1) := by decide +kernel
theorem dX12_believed_128 : decode cX12_believed 128 = .ok (.iconst 1, 1) := by decide +kernel
theorem dX12_believed_129 : decode cX12_believed 129 = .ok (.iadd, 1) := by decide +kernel
theorem dX12_believed_130 : decode cX12_believed 130 = .ok (.aload_n 0, 1) := by decide +kernel
theorem dX12_believed_131 : decode cX12_believed 131 = .ok (.iload_n 1, 1) := by decide +kernel
theorem dX12_believed_132 : decode cX12_believed 132 = .ok (.iload_n 3, 1) := by decide +kernel
theorem dX12_believed_133 : decode cX12_believed 133 = .ok (.invokevirtual 384, 3) := by decide +kernel
theorem dX12_believed_136 : decode cX12_believed 136 = .ok (.invokevirtual 432, 3) := by decide +kernel
theorem dX12_believed_139 : decode cX12_believed 139 = .ok (.iadd, 1) := by decide +kernel
theorem dX12_believed_140 : decode cX12_believed 140 = .ok (.istore 7, 2) := by decide +kernel
theorem dX12_believed_142 : decode cX12_believed 142 = .ok (.iinc 9 1, 3) := by decide +kernel
theorem dX12_believed_145 : decode cX12_believed 145 = .ok (.goto (-39), 3) := by decide +kernel
theorem dX12_believed_148 : decode cX12_believed 148 = .ok (.iload 7, 2) := by decide +kernel
theorem dX12_believed_150 : decode cX12_believed 150 = .ok (.ireturn, 1) := by decide +kernel
set_option maxRecDepth 20000 in
theorem ggX12_odds_X12_isAsked : GoodIn wsX12_odds wsX12_isAsked := goodIn_r _ [10, 11, 12, 13, 14, 15, 9, 16, 17, 18, 19, 20, 286, 287, 288, 289, 290, 291, 292, 293, 294, 295, 296, 297, 298, 299, 300, 301, 302, 303, 304, 305, 306, 307, 308, 309, 310, 311, 312, 313, 314, 315, 316, 317, 318, 319, 320, 321, 322, 323, 324, 325, 326, 327, 328, 329, 330, 331, 332, 333, 334, 335, 336, 337, 338, 339, 340, 341, 342, 343, 344] (by decide +kernel) (by decide +kernel)
set_option maxRecDepth 20000 in
theorem gX12_odds_X12_isAsked : GoodIn wsX12_odds (wsV RX12 419 RX12 yX12_isAsked wsX12_isAsked) := goodIn_app (goodIn_of _ (by decide +kernel)) ggX12_odds_X12_isAsked
set_option maxRecDepth 20000 in
theorem ggX12_odds_X12_isIn : GoodIn wsX12_odds wsX12_isIn := goodIn_r _ [20] (by decide +kernel) (by decide +kernel)
set_option maxRecDepth 20000 in
theorem gX12_odds_X12_isIn : GoodIn wsX12_odds (va_wsS RX12 199 yX12_isIn wsX12_isIn) := goodIn_app (goodIn_of _ (by decide +kernel)) ggX12_odds_X12_isIn
set_option maxRecDepth 20000 in
theorem ggX12_odds_X12_draws : GoodIn wsX12_odds wsX12_draws := goodIn_r _ [24, 25, 26, 27, 28, 29, 30, 31, 32, 33, 34, 9, 35, 36, 2, 37, 38, 39, 40, 41, 42, 43, 44, 45, 46, 47, 48, 49, 50, 51, 52, 53, 54, 55, 56, 57, 58, 59, 60, 61, 62, 63, 64, 65, 66, 67, 68, 69, 70, 71, 72, 73, 74, 75, 76, 77, 78, 79, 80, 81, 82, 83, 84, 85, 86, 87, 88, 89, 90, 91, 92, 93, 94, 95, 96, 97, 98, 99, 100, 101, 102, 103, 104, 105, 106, 107, 108, 109, 110, 111, 112, 113, 114, 115, 116, 117, 118, 119, 120, 121, 122, 123, 124, 125, 126, 127, 128, 129, 130, 131, 132, 133, 134, 135, 136, 137, 138, 139, 140, 141, 142, 143, 144, 145, 146, 147, 148, 149, 150, 151, 152, 153, 154, 155, 156, 157, 158, 159, 160, 161, 162, 163, 164, 165, 166, 167, 168, 169, 170, 171, 172, 173, 174, 175, 176, 177, 178, 179, 180, 181, 182, 183, 184, 185, 186, 187, 188, 189, 190, 191, 192, 193, 194, 195, 196, 197, 198, 199, 200, 201, 202, 203, 204, 205, 206, 207, 208, 209, 210, 211, 212, 213, 214, 215, 216, 217, 286, 287, 288, 289, 290, 291, 292, 293, 294, 295, 296, 297, 298, 299, 300, 301, 302, 303, 304, 305, 306, 307, 308, 309, 310, 311, 312, 313, 314, 315, 316, 317, 318, 319, 320, 321, 322, 323, 324, 325, 326, 327, 328, 329, 330, 331, 332, 333, 334, 335, 336, 337, 338, 339, 340, 341, 342, 343, 344] (by decide +kernel) (by decide +kernel)
set_option maxRecDepth 20000 in
theorem gX12_odds_X12_draws : GoodIn wsX12_odds (wsV RX12 380 RX12 yX12_draws wsX12_draws) := goodIn_app (goodIn_of _ (by decide +kernel)) ggX12_odds_X12_draws
set_option maxRecDepth 20000 in
theorem ggX12_odds_X12_firstClaim : GoodIn wsX12_odds wsX12_firstClaim := goodIn_r _ [221, 1, 5, 36, 2, 222, 38, 39, 40, 9, 41, 223, 224, 225, 226, 227, 228, 229, 230, 231, 232, 233, 234, 235, 236, 237, 238, 239, 240, 241, 242, 42, 43, 44, 45, 46, 47, 48, 49, 50, 51, 52, 53, 54, 55, 56, 57, 58, 59, 60, 61, 62, 63, 64, 65, 66, 67, 68, 69, 70, 71, 72, 73, 74, 75, 76, 77, 78, 79, 80, 81, 82, 83, 84, 85, 86, 87, 88, 89, 90, 91, 92, 93, 94, 95, 96, 97, 98, 99, 100, 101, 102, 103, 104, 105, 27, 106, 107, 108, 109, 110, 111, 112, 113, 114, 115, 116, 117, 118, 119, 120, 121, 122, 123, 124, 125, 126, 127, 128, 129, 130, 131, 132, 133, 134, 135, 136, 137, 138, 139, 140, 141, 142, 143, 144, 145, 146, 147, 148, 149, 150, 151, 152, 153, 154, 155, 156, 157, 158, 159, 160, 161, 162, 163, 164, 165, 166, 167, 168, 169, 170, 171, 172, 173, 174, 175, 176, 177, 178, 179, 180, 181, 182, 183, 184, 185, 186, 187, 188, 189, 190, 191, 192, 193, 194, 195, 25, 26, 28, 29, 30, 31, 196, 197, 198, 199, 200, 201, 202, 203, 204, 205, 206, 207, 208, 209, 210, 211, 212, 213, 214, 215, 216, 217, 286, 287, 288, 289, 290, 291, 292, 293, 294, 295, 296, 297, 298, 299, 300, 301, 302, 303, 304, 305, 306, 307, 308, 309, 310, 311, 312, 313, 314, 315, 316, 317, 318, 319, 320, 321, 322, 323, 324, 325, 326, 327, 328, 329, 330, 331, 332, 333, 334, 335, 336, 337, 338, 339, 340, 341, 342, 343, 344] (by decide +kernel) (by decide +kernel)
set_option maxRecDepth 20000 in
theorem gX12_odds_X12_firstClaim : GoodIn wsX12_odds (wsV RX12 354 RX12 yX12_firstClaim wsX12_firstClaim) := goodIn_app (goodIn_of _ (by decide +kernel)) ggX12_odds_X12_firstClaim
set_option maxRecDepth 20000 in
theorem ggX12_odds_X12_believed : GoodIn wsX12_odds wsX12_believed := goodIn_r _ [246, 1, 2, 4, 5, 247, 248, 249, 250, 9, 251, 232, 252, 253, 254, 255, 32, 33, 34, 35, 36, 37, 38, 39, 40, 41, 42, 43, 44, 45, 46, 47, 48, 49, 50, 51, 52, 53, 54, 55, 56, 57, 58, 59, 60, 61, 62, 63, 64, 65, 66, 67, 68, 69, 70, 71, 72, 73, 74, 75, 76, 77, 78, 79, 80, 81, 82, 83, 84, 85, 86, 87, 88, 89, 90, 91, 92, 93, 94, 95, 96, 97, 98, 99, 100, 101, 102, 103, 104, 105, 27, 106, 107, 108, 109, 110, 111, 112, 113, 114, 115, 116, 117, 118, 119, 120, 121, 122, 123, 124, 125, 126, 127, 128, 129, 130, 131, 132, 133, 134, 135, 136, 137, 138, 139, 140, 141, 142, 143, 144, 145, 146, 147, 148, 149, 150, 151, 152, 153, 154, 155, 156, 157, 158, 159, 160, 161, 162, 163, 164, 165, 166, 167, 168, 169, 170, 171, 172, 173, 174, 175, 176, 177, 178, 179, 180, 181, 182, 183, 184, 185, 186, 187, 188, 189, 190, 191, 192, 193, 194, 195, 25, 26, 28, 29, 30, 31, 196, 197, 198, 199, 200, 201, 202, 203, 204, 205, 206, 207, 208, 209, 210, 211, 212, 213, 214, 215, 216, 217, 233, 234, 235, 236, 237, 238, 239, 240, 241, 242, 256, 257, 258, 259, 260, 222, 261, 262, 263, 264, 228, 229, 230, 231, 265, 266, 267, 268, 269, 270, 271, 272, 21, 22, 23, 24, 273, 274, 275, 276, 277, 278, 279, 280, 281, 282, 283, 284, 285, 243, 244, 245, 286, 287, 288, 289, 290, 291, 292, 293, 294, 295, 296, 297, 298, 299, 300, 301, 302, 303, 304, 305, 306, 307, 308, 309, 310, 311, 312, 313, 314, 315, 316, 317, 318, 319, 320, 321, 322, 323, 324, 325, 326, 327, 328, 329, 330, 331, 332, 333, 334, 335, 336, 337, 338, 339, 340, 341, 342, 343, 344] (by decide +kernel) (by decide +kernel)
set_option maxRecDepth 20000 in
theorem gX12_odds_X12_believed : GoodIn wsX12_odds (wsV RX12 432 RX12 yX12_believed wsX12_believed) := goodIn_app (goodIn_of _ (by decide +kernel)) ggX12_odds_X12_believed
theorem dX12_odds_0 : decode cX12_odds 0 = .ok (.aload_n 0, 1) := by decide +kernel
theorem dX12_odds_1 : decode cX12_odds 1 = .ok (.iload_n 1, 1) := by decide +kernel
theorem dX12_odds_2 : decode cX12_odds 2 = .ok (.iload_n 2, 1) := by decide +kernel
theorem dX12_odds_3 : decode cX12_odds 3 = .ok (.invokevirtual 419, 3) := by decide +kernel
theorem dX12_odds_6 : decode cX12_odds 6 = .ok (.ifCond .eq 13, 3) := by decide +kernel
theorem dX12_odds_9 : decode cX12_odds 9 = .ok (.iload_n 3, 1) := by decide +kernel
theorem dX12_odds_10 : decode cX12_odds 10 = .ok (.i2l, 1) := by decide +kernel
theorem dX12_odds_11 : decode cX12_odds 11 = .ok (.lconst 0, 1) := by decide +kernel
theorem dX12_odds_12 : decode cX12_odds 12 = .ok (.lconst 1, 1) := by decide +kernel
theorem dX12_odds_13 : decode cX12_odds 13 = .ok (.invokestatic 199, 3) := by decide +kernel
theorem dX12_odds_16 : decode cX12_odds 16 = .ok (.ifCond .ne 5, 3) := by decide +kernel
theorem dX12_odds_19 : decode cX12_odds 19 = .ok (.iconst (-1), 1) := by decide +kernel
theorem dX12_odds_20 : decode cX12_odds 20 = .ok (.ireturn, 1) := by decide +kernel
theorem dX12_odds_21 : decode cX12_odds 21 = .ok (.aload_n 0, 1) := by decide +kernel
theorem dX12_odds_22 : decode cX12_odds 22 = .ok (.getfield 65, 3) := by decide +kernel
theorem dX12_odds_25 : decode cX12_odds 25 = .ok (.iload_n 1, 1) := by decide +kernel
theorem dX12_odds_26 : decode cX12_odds 26 = .ok (.iaload, 1) := by decide +kernel
theorem dX12_odds_27 : decode cX12_odds 27 = .ok (.istore 4, 2) := by decide +kernel
theorem dX12_odds_29 : decode cX12_odds 29 = .ok (.lconst 1, 1) := by decide +kernel
theorem dX12_odds_30 : decode cX12_odds 30 = .ok (.lstore 5, 2) := by decide +kernel
theorem dX12_odds_32 : decode cX12_odds 32 = .ok (.iconst 0, 1) := by decide +kernel
theorem dX12_odds_33 : decode cX12_odds 33 = .ok (.istore 7, 2) := by decide +kernel
theorem dX12_odds_35 : decode cX12_odds 35 = .ok (.iload 7, 2) := by decide +kernel
theorem dX12_odds_37 : decode cX12_odds 37 = .ok (.aload_n 0, 1) := by decide +kernel
theorem dX12_odds_38 : decode cX12_odds 38 = .ok (.getfield 23, 3) := by decide +kernel
theorem dX12_odds_41 : decode cX12_odds 41 = .ok (.iload 4, 2) := by decide +kernel
theorem dX12_odds_43 : decode cX12_odds 43 = .ok (.iaload, 1) := by decide +kernel
theorem dX12_odds_44 : decode cX12_odds 44 = .ok (.if_icmp .ge 44, 3) := by decide +kernel
theorem dX12_odds_47 : decode cX12_odds 47 = .ok (.lload 5, 2) := by decide +kernel
theorem dX12_odds_49 : decode cX12_odds 49 = .ok (.ldc2_w 436, 3) := by decide +kernel
theorem dX12_odds_52 : decode cX12_odds 52 = .ok (.lcmp, 1) := by decide +kernel
theorem dX12_odds_53 : decode cX12_odds 53 = .ok (.ifCond .gt 35, 3) := by decide +kernel
theorem dX12_odds_56 : decode cX12_odds 56 = .ok (.lload 5, 2) := by decide +kernel
theorem dX12_odds_58 : decode cX12_odds 58 = .ok (.aload_n 0, 1) := by decide +kernel
theorem dX12_odds_59 : decode cX12_odds 59 = .ok (.aload_n 0, 1) := by decide +kernel
theorem dX12_odds_60 : decode cX12_odds 60 = .ok (.getfield 71, 3) := by decide +kernel
theorem dX12_odds_63 : decode cX12_odds 63 = .ok (.iload_n 1, 1) := by decide +kernel
theorem dX12_odds_64 : decode cX12_odds 64 = .ok (.iaload, 1) := by decide +kernel
theorem dX12_odds_65 : decode cX12_odds 65 = .ok (.iload 4, 2) := by decide +kernel
theorem dX12_odds_67 : decode cX12_odds 67 = .ok (.aload_n 0, 1) := by decide +kernel
theorem dX12_odds_68 : decode cX12_odds 68 = .ok (.getfield 68, 3) := by decide +kernel
theorem dX12_odds_71 : decode cX12_odds 71 = .ok (.iload_n 1, 1) := by decide +kernel
theorem dX12_odds_72 : decode cX12_odds 72 = .ok (.iaload, 1) := by decide +kernel
theorem dX12_odds_73 : decode cX12_odds 73 = .ok (.iload 7, 2) := by decide +kernel
theorem dX12_odds_75 : decode cX12_odds 75 = .ok (.invokevirtual 380, 3) := by decide +kernel
theorem dX12_odds_78 : decode cX12_odds 78 = .ok (.i2l, 1) := by decide +kernel
theorem dX12_odds_79 : decode cX12_odds 79 = .ok (.lmul, 1) := by decide +kernel
theorem dX12_odds_80 : decode cX12_odds 80 = .ok (.lstore 5, 2) := by decide +kernel
theorem dX12_odds_82 : decode cX12_odds 82 = .ok (.iinc 7 1, 3) := by decide +kernel
theorem dX12_odds_85 : decode cX12_odds 85 = .ok (.goto (-50), 3) := by decide +kernel
theorem dX12_odds_88 : decode cX12_odds 88 = .ok (.lload 5, 2) := by decide +kernel
theorem dX12_odds_90 : decode cX12_odds 90 = .ok (.ldc2_w 436, 3) := by decide +kernel
theorem dX12_odds_93 : decode cX12_odds 93 = .ok (.lcmp, 1) := by decide +kernel
theorem dX12_odds_94 : decode cX12_odds 94 = .ok (.ifCond .le 5, 3) := by decide +kernel
theorem dX12_odds_97 : decode cX12_odds 97 = .ok (.iconst (-1), 1) := by decide +kernel
theorem dX12_odds_98 : decode cX12_odds 98 = .ok (.ireturn, 1) := by decide +kernel
theorem dX12_odds_99 : decode cX12_odds 99 = .ok (.iload_n 3, 1) := by decide +kernel
theorem dX12_odds_100 : decode cX12_odds 100 = .ok (.iconst 1, 1) := by decide +kernel
theorem dX12_odds_101 : decode cX12_odds 101 = .ok (.if_icmp .ne 9, 3) := by decide +kernel
theorem dX12_odds_104 : decode cX12_odds 104 = .ok (.lload 5, 2) := by decide +kernel
theorem dX12_odds_106 : decode cX12_odds 106 = .ok (.l2i, 1) := by decide +kernel
theorem dX12_odds_107 : decode cX12_odds 107 = .ok (.goto 16, 3) := by decide +kernel
theorem dX12_odds_110 : decode cX12_odds 110 = .ok (.aload_n 0, 1) := by decide +kernel
theorem dX12_odds_111 : decode cX12_odds 111 = .ok (.iload_n 1, 1) := by decide +kernel
theorem dX12_odds_112 : decode cX12_odds 112 = .ok (.iload_n 2, 1) := by decide +kernel
theorem dX12_odds_113 : decode cX12_odds 113 = .ok (.iconst 0, 1) := by decide +kernel
theorem dX12_odds_114 : decode cX12_odds 114 = .ok (.aload_n 0, 1) := by decide +kernel
theorem dX12_odds_115 : decode cX12_odds 115 = .ok (.iload_n 1, 1) := by decide +kernel
theorem dX12_odds_116 : decode cX12_odds 116 = .ok (.iload_n 2, 1) := by decide +kernel
theorem dX12_odds_117 : decode cX12_odds 117 = .ok (.invokevirtual 354, 3) := by decide +kernel
theorem dX12_odds_120 : decode cX12_odds 120 = .ok (.invokevirtual 432, 3) := by decide +kernel
theorem dX12_odds_123 : decode cX12_odds 123 = .ok (.ireturn, 1) := by decide +kernel
set_option maxRecDepth 20000 in
theorem ggX12_product_X12_draws : GoodIn wsX12_product wsX12_draws := goodIn_r _ [7, 8, 9, 10, 11, 12, 13, 14, 15, 16, 17, 6, 18, 19, 1, 20, 21, 22, 23, 24, 25, 26, 27, 28, 29, 30, 31, 32, 33, 34, 35, 36, 37, 38, 39, 40, 41, 42, 43, 44, 45, 46, 47, 48, 49, 50, 51, 52, 53, 54, 55, 56, 57, 58, 59, 60, 61, 62, 63, 64, 65, 66, 67, 68, 69, 70, 71, 72, 73, 74, 75, 76, 77, 78, 79, 80, 81, 82, 83, 84, 85, 86, 87, 88, 89, 90, 91, 92, 93, 94, 95, 96, 97, 98, 99, 100, 101, 102, 103, 104, 105, 106, 107, 108, 109, 110, 111, 112, 113, 114, 115, 116, 117, 118, 119, 120, 121, 122, 123, 124, 125, 126, 127, 128, 129, 130, 131, 132, 133, 134, 135, 136, 137, 138, 139, 140, 141, 142, 143, 144, 145, 146, 147, 148, 149, 150, 151, 152, 153, 154, 155, 156, 157, 158, 159, 160, 161, 162, 163, 164, 165, 166, 167, 168, 169, 170, 171, 172, 173, 174, 175, 176, 177, 178, 179, 180, 181, 182, 183, 184, 185, 186, 187, 188, 189, 190, 191, 192, 193, 194, 195, 196, 197, 198, 199, 200, 201, 202, 203, 204, 205, 206, 207, 208, 209, 210, 211, 212, 213, 214, 215, 216, 217, 218, 219, 220, 221, 222, 223, 224, 225, 226, 227, 228, 229, 230, 231, 232, 233, 234, 235, 236, 237, 238, 239, 240, 241, 242, 243, 244, 245, 246, 247, 248, 249, 250, 251, 252, 253, 254, 255, 256, 257, 258, 259] (by decide +kernel) (by decide +kernel)
set_option maxRecDepth 20000 in
theorem gX12_product_X12_draws : GoodIn wsX12_product (wsV RX12 380 RX12 yX12_draws wsX12_draws) := goodIn_app (goodIn_of _ (by decide +kernel)) ggX12_product_X12_draws
theorem dX12_product_0 : decode cX12_product 0 = .ok (.lconst 1, 1) := by decide +kernel
theorem dX12_product_1 : decode cX12_product 1 = .ok (.lstore 4, 2) := by decide +kernel
theorem dX12_product_3 : decode cX12_product 3 = .ok (.iconst 0, 1) := by decide +kernel
theorem dX12_product_4 : decode cX12_product 4 = .ok (.istore 6, 2) := by decide +kernel
theorem dX12_product_6 : decode cX12_product 6 = .ok (.iload 6, 2) := by decide +kernel
theorem dX12_product_8 : decode cX12_product 8 = .ok (.aload_n 0, 1) := by decide +kernel
theorem dX12_product_9 : decode cX12_product 9 = .ok (.getfield 23, 3) := by decide +kernel
theorem dX12_product_12 : decode cX12_product 12 = .ok (.iload_n 1, 1) := by decide +kernel
theorem dX12_product_13 : decode cX12_product 13 = .ok (.iaload, 1) := by decide +kernel
theorem dX12_product_14 : decode cX12_product 14 = .ok (.if_icmp .ge 51, 3) := by decide +kernel
theorem dX12_product_17 : decode cX12_product 17 = .ok (.aload_n 0, 1) := by decide +kernel
theorem dX12_product_18 : decode cX12_product 18 = .ok (.iload_n 2, 1) := by decide +kernel
theorem dX12_product_19 : decode cX12_product 19 = .ok (.iload_n 1, 1) := by decide +kernel
theorem dX12_product_20 : decode cX12_product 20 = .ok (.iload_n 3, 1) := by decide +kernel
theorem dX12_product_21 : decode cX12_product 21 = .ok (.iload 6, 2) := by decide +kernel
theorem dX12_product_23 : decode cX12_product 23 = .ok (.invokevirtual 380, 3) := by decide +kernel
theorem dX12_product_26 : decode cX12_product 26 = .ok (.istore 7, 2) := by decide +kernel
theorem dX12_product_28 : decode cX12_product 28 = .ok (.iload 7, 2) := by decide +kernel
theorem dX12_product_30 : decode cX12_product 30 = .ok (.sipush 1000, 3) := by decide +kernel
theorem dX12_product_33 : decode cX12_product 33 = .ok (.if_icmp .gt 16, 3) := by decide +kernel
theorem dX12_product_36 : decode cX12_product 36 = .ok (.lload 4, 2) := by decide +kernel
theorem dX12_product_38 : decode cX12_product 38 = .ok (.ldc2_w 438, 3) := by decide +kernel
theorem dX12_product_41 : decode cX12_product 41 = .ok (.iload 7, 2) := by decide +kernel
theorem dX12_product_43 : decode cX12_product 43 = .ok (.i2l, 1) := by decide +kernel
theorem dX12_product_44 : decode cX12_product 44 = .ok (.ldiv, 1) := by decide +kernel
theorem dX12_product_45 : decode cX12_product 45 = .ok (.lcmp, 1) := by decide +kernel
theorem dX12_product_46 : decode cX12_product 46 = .ok (.ifCond .le 5, 3) := by decide +kernel
theorem dX12_product_49 : decode cX12_product 49 = .ok (.lconst 0, 1) := by decide +kernel
theorem dX12_product_50 : decode cX12_product 50 = .ok (.lreturn, 1) := by decide +kernel
theorem dX12_product_51 : decode cX12_product 51 = .ok (.lload 4, 2) := by decide +kernel
theorem dX12_product_53 : decode cX12_product 53 = .ok (.iload 7, 2) := by decide +kernel
theorem dX12_product_55 : decode cX12_product 55 = .ok (.i2l, 1) := by decide +kernel
theorem dX12_product_56 : decode cX12_product 56 = .ok (.lmul, 1) := by decide +kernel
theorem dX12_product_57 : decode cX12_product 57 = .ok (.lstore 4, 2) := by decide +kernel
theorem dX12_product_59 : decode cX12_product 59 = .ok (.iinc 6 1, 3) := by decide +kernel
theorem dX12_product_62 : decode cX12_product 62 = .ok (.goto (-56), 3) := by decide +kernel
theorem dX12_product_65 : decode cX12_product 65 = .ok (.lload 4, 2) := by decide +kernel
theorem dX12_product_67 : decode cX12_product 67 = .ok (.lreturn, 1) := by decide +kernel
set_option maxRecDepth 20000 in
theorem ggX12_rootsIn_X12_draws : GoodIn wsX12_rootsIn wsX12_draws := goodIn_r _ [10, 11, 12, 4, 13, 14, 15, 16, 17, 18, 19, 9, 20, 21, 22, 1, 23, 24, 25, 26, 27, 28, 29, 30, 31, 32, 33, 34, 35, 36, 37, 38, 39, 40, 41, 42, 43, 44, 45, 46, 47, 48, 49, 50, 51, 52, 53, 54, 55, 56, 57, 58, 59, 60, 61, 62, 63, 64, 65, 66, 67, 68, 69, 70, 71, 72, 73, 74, 75, 76, 77, 78, 79, 80, 81, 82, 83, 84, 85, 86, 87, 88, 89, 90, 91, 92, 3, 5, 93, 94, 95, 96, 97, 98, 99, 100, 101, 102, 103, 104, 105, 106, 107, 108, 109, 110, 111, 112, 113, 114, 115, 116, 117, 118, 119, 120, 121, 122, 123, 124, 125, 126, 127, 128, 129, 130, 131, 132, 133, 134, 135, 136, 137, 138, 139, 140, 141, 142, 143, 144, 145, 146, 147, 148, 149, 150, 151, 152, 153, 154, 155, 156, 157, 158, 159, 160, 161, 162, 163, 164, 165, 166, 167, 168, 169, 170, 171, 172, 173, 174, 175, 176, 177, 178, 179, 180, 181, 182, 183, 184, 185, 186, 187, 188, 189, 190, 191, 192, 193, 194, 195, 196, 197, 198, 199, 200, 205, 206, 207, 208, 209, 210, 211, 212, 213, 214, 215, 216, 217, 218, 219, 220, 221, 222, 223, 224, 225, 226, 227, 228, 229, 230, 231, 232, 233, 234, 235, 236, 237, 238, 239, 240, 241, 242, 243, 244, 245, 246, 247, 248, 249, 250, 251, 252, 253, 254, 255, 256, 257, 258, 259, 260, 261, 262, 263] (by decide +kernel) (by decide +kernel)
set_option maxRecDepth 20000 in
theorem gX12_rootsIn_X12_draws : GoodIn wsX12_rootsIn (wsV RX12 380 RX12 yX12_draws wsX12_draws) := goodIn_app (goodIn_of _ (by decide +kernel)) ggX12_rootsIn_X12_draws
set_option maxRecDepth 20000 in
theorem ggX12_rootsIn_X12_asksSum : GoodIn wsX12_rootsIn wsX12_asksSum := goodIn_r _ [204, 17, 18, 19, 9, 20, 21, 22, 1, 23, 24, 25, 26, 27, 28, 29, 30, 31, 32, 33, 34, 35, 36, 37, 38, 39, 40, 41, 42, 43, 44, 45, 46, 47, 48, 49, 50, 51, 52, 53, 54, 55, 56, 57, 58, 59, 60, 61, 62, 63, 64, 65, 66, 67, 68, 69, 70, 71, 72, 73, 74, 75, 76, 77, 78, 79, 80, 81, 82, 83, 84, 85, 86, 87, 88, 89, 90, 4, 91, 92, 3, 5, 93, 94, 95, 96, 97, 98, 99, 100, 101, 102, 103, 104, 105, 106, 107, 108, 109, 110, 111, 112, 113, 114, 115, 116, 117, 118, 119, 120, 121, 122, 123, 124, 125, 126, 127, 128, 129, 130, 131, 132, 133, 134, 135, 136, 137, 138, 139, 140, 141, 142, 143, 144, 145, 146, 147, 148, 149, 150, 151, 152, 153, 154, 155, 156, 157, 158, 159, 160, 161, 162, 163, 164, 165, 166, 167, 168, 169, 170, 171, 172, 173, 174, 175, 176, 177, 178, 11, 12, 13, 14, 15, 16, 179, 180, 181, 182, 183, 184, 185, 186, 187, 188, 189, 190, 191, 192, 193, 194, 195, 196, 197, 198, 199, 200, 205, 206, 207, 208, 209, 210, 211, 212, 213, 214, 215, 216, 217, 218, 219, 220, 221, 222, 223, 224, 225, 226, 227, 228, 229, 230, 231, 232, 233, 234, 235, 236, 237, 238, 239, 240, 241, 242, 243, 244, 245, 246, 247, 248, 249, 250, 251, 252, 253, 254, 255, 256, 257, 258, 259, 260, 261, 262, 263] (by decide +kernel) (by decide +kernel)
set_option maxRecDepth 20000 in
theorem gX12_rootsIn_X12_asksSum : GoodIn wsX12_rootsIn (wsV RX12 372 RX12 yX12_asksSum wsX12_asksSum) := goodIn_app (goodIn_of _ (by decide +kernel)) ggX12_rootsIn_X12_asksSum
theorem dX12_rootsIn_0 : decode cX12_rootsIn 0 = .ok (.aload_n 0, 1) := by decide +kernel
theorem dX12_rootsIn_1 : decode cX12_rootsIn 1 = .ok (.iload_n 2, 1) := by decide +kernel
theorem dX12_rootsIn_2 : decode cX12_rootsIn 2 = .ok (.iload_n 1, 1) := by decide +kernel
theorem dX12_rootsIn_3 : decode cX12_rootsIn 3 = .ok (.iload_n 3, 1) := by decide +kernel
theorem dX12_rootsIn_4 : decode cX12_rootsIn 4 = .ok (.iload 4, 2) := by decide +kernel
theorem dX12_rootsIn_6 : decode cX12_rootsIn 6 = .ok (.invokevirtual 380, 3) := by decide +kernel
theorem dX12_rootsIn_9 : decode cX12_rootsIn 9 = .ok (.istore 5, 2) := by decide +kernel
theorem dX12_rootsIn_11 : decode cX12_rootsIn 11 = .ok (.aload_n 0, 1) := by decide +kernel
theorem dX12_rootsIn_12 : decode cX12_rootsIn 12 = .ok (.iload_n 2, 1) := by decide +kernel
theorem dX12_rootsIn_13 : decode cX12_rootsIn 13 = .ok (.iload_n 1, 1) := by decide +kernel
theorem dX12_rootsIn_14 : decode cX12_rootsIn 14 = .ok (.iload_n 3, 1) := by decide +kernel
theorem dX12_rootsIn_15 : decode cX12_rootsIn 15 = .ok (.iload 4, 2) := by decide +kernel
theorem dX12_rootsIn_17 : decode cX12_rootsIn 17 = .ok (.invokevirtual 372, 3) := by decide +kernel
theorem dX12_rootsIn_20 : decode cX12_rootsIn 20 = .ok (.ifCond .ne 6, 3) := by decide +kernel
theorem dX12_rootsIn_23 : decode cX12_rootsIn 23 = .ok (.iload 5, 2) := by decide +kernel
theorem dX12_rootsIn_25 : decode cX12_rootsIn 25 = .ok (.ireturn, 1) := by decide +kernel
theorem dX12_rootsIn_26 : decode cX12_rootsIn 26 = .ok (.aload_n 0, 1) := by decide +kernel
theorem dX12_rootsIn_27 : decode cX12_rootsIn 27 = .ok (.getfield 26, 3) := by decide +kernel
theorem dX12_rootsIn_30 : decode cX12_rootsIn 30 = .ok (.bipush 6, 2) := by decide +kernel
theorem dX12_rootsIn_32 : decode cX12_rootsIn 32 = .ok (.iload_n 1, 1) := by decide +kernel
theorem dX12_rootsIn_33 : decode cX12_rootsIn 33 = .ok (.imul, 1) := by decide +kernel
theorem dX12_rootsIn_34 : decode cX12_rootsIn 34 = .ok (.iload 4, 2) := by decide +kernel
theorem dX12_rootsIn_36 : decode cX12_rootsIn 36 = .ok (.iadd, 1) := by decide +kernel
theorem dX12_rootsIn_37 : decode cX12_rootsIn 37 = .ok (.iaload, 1) := by decide +kernel
theorem dX12_rootsIn_38 : decode cX12_rootsIn 38 = .ok (.iload 5, 2) := by decide +kernel
theorem dX12_rootsIn_40 : decode cX12_rootsIn 40 = .ok (.iconst 1, 1) := by decide +kernel
theorem dX12_rootsIn_41 : decode cX12_rootsIn 41 = .ok (.if_icmp .ne 7, 3) := by decide +kernel
theorem dX12_rootsIn_44 : decode cX12_rootsIn 44 = .ok (.iconst 1, 1) := by decide +kernel
theorem dX12_rootsIn_45 : decode cX12_rootsIn 45 = .ok (.goto 7, 3) := by decide +kernel
theorem dX12_rootsIn_48 : decode cX12_rootsIn 48 = .ok (.iload 5, 2) := by decide +kernel
theorem dX12_rootsIn_50 : decode cX12_rootsIn 50 = .ok (.iconst 1, 1) := by decide +kernel
theorem dX12_rootsIn_51 : decode cX12_rootsIn 51 = .ok (.isub, 1) := by decide +kernel
theorem dX12_rootsIn_52 : decode cX12_rootsIn 52 = .ok (.invokestatic 409, 3) := by decide +kernel
theorem dX12_rootsIn_55 : decode cX12_rootsIn 55 = .ok (.ireturn, 1) := by decide +kernel
theorem dX12_common_0 : decode cX12_common 0 = .ok (.lload_n 0, 1) := by decide +kernel
theorem dX12_common_1 : decode cX12_common 1 = .ok (.lstore 4, 2) := by decide +kernel
theorem dX12_common_3 : decode cX12_common 3 = .ok (.lload_n 2, 1) := by decide +kernel
theorem dX12_common_4 : decode cX12_common 4 = .ok (.lstore 6, 2) := by decide +kernel
theorem dX12_common_6 : decode cX12_common 6 = .ok (.lload 6, 2) := by decide +kernel
theorem dX12_common_8 : decode cX12_common 8 = .ok (.lconst 0, 1) := by decide +kernel
theorem dX12_common_9 : decode cX12_common 9 = .ok (.lcmp, 1) := by decide +kernel
theorem dX12_common_10 : decode cX12_common 10 = .ok (.ifCond .eq 21, 3) := by decide +kernel
theorem dX12_common_13 : decode cX12_common 13 = .ok (.lload 4, 2) := by decide +kernel
theorem dX12_common_15 : decode cX12_common 15 = .ok (.lload 6, 2) := by decide +kernel
theorem dX12_common_17 : decode cX12_common 17 = .ok (.lrem, 1) := by decide +kernel
theorem dX12_common_18 : decode cX12_common 18 = .ok (.lstore 8, 2) := by decide +kernel
theorem dX12_common_20 : decode cX12_common 20 = .ok (.lload 6, 2) := by decide +kernel
theorem dX12_common_22 : decode cX12_common 22 = .ok (.lstore 4, 2) := by decide +kernel
theorem dX12_common_24 : decode cX12_common 24 = .ok (.lload 8, 2) := by decide +kernel
theorem dX12_common_26 : decode cX12_common 26 = .ok (.lstore 6, 2) := by decide +kernel
theorem dX12_common_28 : decode cX12_common 28 = .ok (.goto (-22), 3) := by decide +kernel
theorem dX12_common_31 : decode cX12_common 31 = .ok (.lload 4, 2) := by decide +kernel
theorem dX12_common_33 : decode cX12_common 33 = .ok (.lreturn, 1) := by decide +kernel
set_option maxRecDepth 20000 in
theorem ggX12_fraction_X12_common : GoodIn wsX12_fraction wsX12_common := goodIn_r _ [4] (by decide +kernel) (by decide +kernel)
set_option maxRecDepth 20000 in
theorem gX12_fraction_X12_common : GoodIn wsX12_fraction (va_wsS RX12 440 yX12_common wsX12_common) := goodIn_app (goodIn_of _ (by decide +kernel)) ggX12_fraction_X12_common
theorem dX12_fraction_0 : decode cX12_fraction 0 = .ok (.lload_n 2, 1) := by decide +kernel
theorem dX12_fraction_1 : decode cX12_fraction 1 = .ok (.lload_n 0, 1) := by decide +kernel
theorem dX12_fraction_2 : decode cX12_fraction 2 = .ok (.invokestatic 440, 3) := by decide +kernel
theorem dX12_fraction_5 : decode cX12_fraction 5 = .ok (.lstore 5, 2) := by decide +kernel
theorem dX12_fraction_7 : decode cX12_fraction 7 = .ok (.iload 4, 2) := by decide +kernel
theorem dX12_fraction_9 : decode cX12_fraction 9 = .ok (.ifCond .ne 7, 3) := by decide +kernel
theorem dX12_fraction_12 : decode cX12_fraction 12 = .ok (.lload_n 0, 1) := by decide +kernel
theorem dX12_fraction_13 : decode cX12_fraction 13 = .ok (.goto 4, 3) := by decide +kernel
theorem dX12_fraction_16 : decode cX12_fraction 16 = .ok (.lload_n 2, 1) := by decide +kernel
theorem dX12_fraction_17 : decode cX12_fraction 17 = .ok (.lload 5, 2) := by decide +kernel
theorem dX12_fraction_19 : decode cX12_fraction 19 = .ok (.ldiv, 1) := by decide +kernel
theorem dX12_fraction_20 : decode cX12_fraction 20 = .ok (.lreturn, 1) := by decide +kernel
set_option maxRecDepth 20000 in
theorem ggX12_bestOf_X12_product : GoodIn wsX12_bestOf wsX12_product := goodIn_r _ [7, 2, 8, 9, 10, 11, 6, 12, 13, 14, 15, 16, 17, 18, 19, 20, 21, 22, 23, 24, 25, 26, 27, 28, 29, 30, 31, 32, 33, 34, 35, 36, 37, 38, 39, 40, 41, 42, 43, 44, 45, 46, 47, 48, 49, 50, 51, 52, 53, 54, 55, 56, 57, 58, 59, 60, 61, 62, 63, 64, 65, 66, 67, 68, 69, 70, 71, 72, 73, 74, 75, 76, 77, 78, 79, 80, 81, 82, 83, 84, 85, 86, 87, 88, 89, 90, 91, 92, 93, 94, 95, 96, 97, 98, 99, 100, 101, 102, 103, 104, 105, 106, 107, 108, 109, 110, 111, 112, 113, 114, 115, 116, 117, 118, 119, 120, 121, 122, 123, 124, 125, 126, 127, 128, 129, 130, 131, 132, 133, 134, 135, 136, 137, 138, 139, 140, 141, 142, 143, 144, 145, 146, 147, 148, 149, 150, 151, 152, 153, 154, 155, 156, 157, 158, 159, 160, 161, 162, 163, 164, 165, 166, 167, 168, 169, 170, 171, 172, 173, 174, 175, 176, 177, 178, 179, 180, 181, 182, 183, 184, 185, 186, 187, 188, 189, 190, 191, 192, 193, 194, 195, 196, 197, 198, 199, 200, 201, 202, 203, 204, 205, 225, 226, 227, 228, 229, 230, 231, 232, 233, 234, 235, 236, 237, 238, 239, 240, 241, 242, 243, 244, 245, 246, 247, 248, 249, 250, 251, 252, 253, 254, 255, 256, 257, 258, 259, 260, 261, 262, 263, 264, 265, 266, 267, 268, 269, 270, 271, 272, 273, 274, 275, 276, 277, 278, 279, 280, 281, 282, 283] (by decide +kernel) (by decide +kernel)
set_option maxRecDepth 20000 in
theorem gX12_bestOf_X12_product : GoodIn wsX12_bestOf (wsV RX12 443 RX12 yX12_product wsX12_product) := goodIn_app (goodIn_of _ (by decide +kernel)) ggX12_bestOf_X12_product
set_option maxRecDepth 20000 in
theorem ggX12_bestOf_X12_asksEnd : GoodIn wsX12_bestOf wsX12_asksEnd := goodIn_r _ [209, 2, 20, 21, 22, 6, 23, 24, 25, 26, 27, 28, 29, 30, 31, 32, 33, 34, 35, 36, 37, 38, 39, 40, 41, 42, 43, 44, 45, 46, 47, 48, 49, 50, 51, 52, 53, 54, 55, 56, 57, 58, 59, 60, 61, 62, 63, 64, 65, 66, 67, 68, 69, 70, 71, 72, 73, 74, 75, 76, 77, 78, 79, 80, 81, 82, 83, 84, 85, 86, 87, 88, 89, 90, 91, 92, 93, 15, 94, 95, 96, 97, 98, 99, 100, 101, 102, 103, 104, 105, 106, 107, 108, 109, 110, 111, 112, 113, 114, 115, 116, 117, 118, 119, 120, 121, 122, 123, 124, 125, 126, 127, 128, 129, 130, 131, 132, 133, 134, 135, 136, 137, 138, 139, 140, 141, 142, 143, 144, 145, 146, 147, 148, 149, 150, 151, 152, 153, 154, 155, 156, 157, 158, 159, 160, 161, 162, 163, 164, 165, 166, 167, 168, 169, 170, 171, 172, 173, 174, 175, 176, 177, 178, 179, 180, 181, 182, 183, 13, 14, 16, 17, 18, 19, 184, 185, 186, 187, 188, 189, 190, 191, 192, 193, 194, 195, 196, 197, 198, 199, 200, 201, 202, 203, 204, 205, 225, 226, 227, 228, 229, 230, 231, 232, 233, 234, 235, 236, 237, 238, 239, 240, 241, 242, 243, 244, 245, 246, 247, 248, 249, 250, 251, 252, 253, 254, 255, 256, 257, 258, 259, 260, 261, 262, 263, 264, 265, 266, 267, 268, 269, 270, 271, 272, 273, 274, 275, 276, 277, 278, 279, 280, 281, 282, 283] (by decide +kernel) (by decide +kernel)
set_option maxRecDepth 20000 in
theorem gX12_bestOf_X12_asksEnd : GoodIn wsX12_bestOf (wsV RX12 337 RX12 yX12_asksEnd wsX12_asksEnd) := goodIn_app (goodIn_of _ (by decide +kernel)) ggX12_bestOf_X12_asksEnd
set_option maxRecDepth 20000 in
theorem ggX12_bestOf_X12_draws : GoodIn wsX12_bestOf wsX12_draws := goodIn_r _ [12, 13, 14, 15, 16, 17, 18, 19, 20, 21, 22, 6, 23, 24, 2, 25, 26, 27, 28, 29, 30, 31, 32, 33, 34, 35, 36, 37, 38, 39, 40, 41, 42, 43, 44, 45, 46, 47, 48, 49, 50, 51, 52, 53, 54, 55, 56, 57, 58, 59, 60, 61, 62, 63, 64, 65, 66, 67, 68, 69, 70, 71, 72, 73, 74, 75, 76, 77, 78, 79, 80, 81, 82, 83, 84, 85, 86, 87, 88, 89, 90, 91, 92, 93, 94, 95, 96, 97, 98, 99, 100, 101, 102, 103, 104, 105, 106, 107, 108, 109, 110, 111, 112, 113, 114, 115, 116, 117, 118, 119, 120, 121, 122, 123, 124, 125, 126, 127, 128, 129, 130, 131, 132, 133, 134, 135, 136, 137, 138, 139, 140, 141, 142, 143, 144, 145, 146, 147, 148, 149, 150, 151, 152, 153, 154, 155, 156, 157, 158, 159, 160, 161, 162, 163, 164, 165, 166, 167, 168, 169, 170, 171, 172, 173, 174, 175, 176, 177, 178, 179, 180, 181, 182, 183, 184, 185, 186, 187, 188, 189, 190, 191, 192, 193, 194, 195, 196, 197, 198, 199, 200, 201, 202, 203, 204, 205, 225, 226, 227, 228, 229, 230, 231, 232, 233, 234, 235, 236, 237, 238, 239, 240, 241, 242, 243, 244, 245, 246, 247, 248, 249, 250, 251, 252, 253, 254, 255, 256, 257, 258, 259, 260, 261, 262, 263, 264, 265, 266, 267, 268, 269, 270, 271, 272, 273, 274, 275, 276, 277, 278, 279, 280, 281, 282, 283] (by decide +kernel) (by decide +kernel)
set_option maxRecDepth 20000 in
theorem gX12_bestOf_X12_draws : GoodIn wsX12_bestOf (wsV RX12 380 RX12 yX12_draws wsX12_draws) := goodIn_app (goodIn_of _ (by decide +kernel)) ggX12_bestOf_X12_draws
set_option maxRecDepth 20000 in
theorem ggX12_bestOf_X12_rootsIn : GoodIn wsX12_bestOf wsX12_rootsIn := goodIn_r _ [213, 25, 214, 96, 15, 97, 9, 10, 11, 6, 12, 13, 14, 16, 17, 18, 19, 20, 21, 22, 23, 24, 2, 26, 27, 28, 29, 30, 31, 32, 33, 34, 35, 36, 37, 38, 39, 40, 41, 42, 43, 44, 45, 46, 47, 48, 49, 50, 51, 52, 53, 54, 55, 56, 57, 58, 59, 60, 61, 62, 63, 64, 65, 66, 67, 68, 69, 70, 71, 72, 73, 74, 75, 76, 77, 78, 79, 80, 81, 82, 83, 84, 85, 86, 87, 88, 89, 90, 91, 92, 93, 94, 95, 98, 99, 100, 101, 102, 103, 104, 105, 106, 107, 108, 109, 110, 111, 112, 113, 114, 115, 116, 117, 118, 119, 120, 121, 122, 123, 124, 125, 126, 127, 128, 129, 130, 131, 132, 133, 134, 135, 136, 137, 138, 139, 140, 141, 142, 143, 144, 145, 146, 147, 148, 149, 150, 151, 152, 153, 154, 155, 156, 157, 158, 159, 160, 161, 162, 163, 164, 165, 166, 167, 168, 169, 170, 171, 172, 173, 174, 175, 176, 177, 178, 179, 180, 181, 182, 183, 184, 185, 186, 187, 188, 189, 190, 191, 192, 193, 194, 195, 196, 197, 198, 199, 200, 201, 202, 203, 204, 205, 215, 216, 217, 218, 225, 226, 227, 228, 229, 230, 231, 232, 233, 234, 235, 236, 237, 238, 239, 240, 241, 242, 243, 244, 245, 246, 247, 248, 249, 250, 251, 252, 253, 254, 255, 256, 257, 258, 259, 260, 261, 262, 263, 264, 265, 266, 267, 268, 269, 270, 271, 272, 273, 274, 275, 276, 277, 278, 279, 280, 281, 282, 283] (by decide +kernel) (by decide +kernel)
set_option maxRecDepth 20000 in
theorem gX12_bestOf_X12_rootsIn : GoodIn wsX12_bestOf (wsV RX12 448 RX12 yX12_rootsIn wsX12_rootsIn) := goodIn_app (goodIn_of _ (by decide +kernel)) ggX12_bestOf_X12_rootsIn
set_option maxRecDepth 20000 in
theorem ggX12_bestOf_X12_fraction : GoodIn wsX12_bestOf wsX12_fraction := goodIn_r _ [221, 222, 223, 6, 224] (by decide +kernel) (by decide +kernel)
set_option maxRecDepth 20000 in
theorem gX12_bestOf_X12_fraction : GoodIn wsX12_bestOf (va_wsS RX12 451 yX12_fraction wsX12_fraction) := goodIn_app (goodIn_of _ (by decide +kernel)) ggX12_bestOf_X12_fraction
theorem dX12_bestOf_0 : decode cX12_bestOf 0 = .ok (.aload_n 0, 1) := by decide +kernel
theorem dX12_bestOf_1 : decode cX12_bestOf 1 = .ok (.iload_n 1, 1) := by decide +kernel
theorem dX12_bestOf_2 : decode cX12_bestOf 2 = .ok (.iload_n 2, 1) := by decide +kernel
theorem dX12_bestOf_3 : decode cX12_bestOf 3 = .ok (.iload_n 3, 1) := by decide +kernel
theorem dX12_bestOf_4 : decode cX12_bestOf 4 = .ok (.invokevirtual 443, 3) := by decide +kernel
theorem dX12_bestOf_7 : decode cX12_bestOf 7 = .ok (.lstore 5, 2) := by decide +kernel
theorem dX12_bestOf_9 : decode cX12_bestOf 9 = .ok (.lload 5, 2) := by decide +kernel
theorem dX12_bestOf_11 : decode cX12_bestOf 11 = .ok (.lconst 0, 1) := by decide +kernel
theorem dX12_bestOf_12 : decode cX12_bestOf 12 = .ok (.lcmp, 1) := by decide +kernel
theorem dX12_bestOf_13 : decode cX12_bestOf 13 = .ok (.ifCond .ne 7, 3) := by decide +kernel
theorem dX12_bestOf_16 : decode cX12_bestOf 16 = .ok (.ldc2_w 446, 3) := by decide +kernel
theorem dX12_bestOf_19 : decode cX12_bestOf 19 = .ok (.lreturn, 1) := by decide +kernel
theorem dX12_bestOf_20 : decode cX12_bestOf 20 = .ok (.aload_n 0, 1) := by decide +kernel
theorem dX12_bestOf_21 : decode cX12_bestOf 21 = .ok (.iload_n 2, 1) := by decide +kernel
theorem dX12_bestOf_22 : decode cX12_bestOf 22 = .ok (.iload_n 1, 1) := by decide +kernel
theorem dX12_bestOf_23 : decode cX12_bestOf 23 = .ok (.iload_n 3, 1) := by decide +kernel
theorem dX12_bestOf_24 : decode cX12_bestOf 24 = .ok (.invokevirtual 337, 3) := by decide +kernel
theorem dX12_bestOf_27 : decode cX12_bestOf 27 = .ok (.ifCond .ne 5, 3) := by decide +kernel
theorem dX12_bestOf_30 : decode cX12_bestOf 30 = .ok (.lconst 1, 1) := by decide +kernel
theorem dX12_bestOf_31 : decode cX12_bestOf 31 = .ok (.lreturn, 1) := by decide +kernel
theorem dX12_bestOf_32 : decode cX12_bestOf 32 = .ok (.lconst 1, 1) := by decide +kernel
theorem dX12_bestOf_33 : decode cX12_bestOf 33 = .ok (.lstore 7, 2) := by decide +kernel
theorem dX12_bestOf_35 : decode cX12_bestOf 35 = .ok (.iconst 0, 1) := by decide +kernel
theorem dX12_bestOf_36 : decode cX12_bestOf 36 = .ok (.istore 9, 2) := by decide +kernel
theorem dX12_bestOf_38 : decode cX12_bestOf 38 = .ok (.iload 9, 2) := by decide +kernel
theorem dX12_bestOf_40 : decode cX12_bestOf 40 = .ok (.aload_n 0, 1) := by decide +kernel
theorem dX12_bestOf_41 : decode cX12_bestOf 41 = .ok (.getfield 23, 3) := by decide +kernel
theorem dX12_bestOf_44 : decode cX12_bestOf 44 = .ok (.iload_n 1, 1) := by decide +kernel
theorem dX12_bestOf_45 : decode cX12_bestOf 45 = .ok (.iaload, 1) := by decide +kernel
theorem dX12_bestOf_46 : decode cX12_bestOf 46 = .ok (.if_icmp .ge 34, 3) := by decide +kernel
theorem dX12_bestOf_49 : decode cX12_bestOf 49 = .ok (.lload 7, 2) := by decide +kernel
theorem dX12_bestOf_51 : decode cX12_bestOf 51 = .ok (.aload_n 0, 1) := by decide +kernel
theorem dX12_bestOf_52 : decode cX12_bestOf 52 = .ok (.iload_n 2, 1) := by decide +kernel
theorem dX12_bestOf_53 : decode cX12_bestOf 53 = .ok (.iload_n 1, 1) := by decide +kernel
theorem dX12_bestOf_54 : decode cX12_bestOf 54 = .ok (.iload_n 3, 1) := by decide +kernel
theorem dX12_bestOf_55 : decode cX12_bestOf 55 = .ok (.iload 9, 2) := by decide +kernel
theorem dX12_bestOf_57 : decode cX12_bestOf 57 = .ok (.invokevirtual 380, 3) := by decide +kernel
theorem dX12_bestOf_60 : decode cX12_bestOf 60 = .ok (.aload_n 0, 1) := by decide +kernel
theorem dX12_bestOf_61 : decode cX12_bestOf 61 = .ok (.iload_n 1, 1) := by decide +kernel
theorem dX12_bestOf_62 : decode cX12_bestOf 62 = .ok (.iload_n 2, 1) := by decide +kernel
theorem dX12_bestOf_63 : decode cX12_bestOf 63 = .ok (.iload_n 3, 1) := by decide +kernel
theorem dX12_bestOf_64 : decode cX12_bestOf 64 = .ok (.iload 9, 2) := by decide +kernel
theorem dX12_bestOf_66 : decode cX12_bestOf 66 = .ok (.invokevirtual 448, 3) := by decide +kernel
theorem dX12_bestOf_69 : decode cX12_bestOf 69 = .ok (.isub, 1) := by decide +kernel
theorem dX12_bestOf_70 : decode cX12_bestOf 70 = .ok (.i2l, 1) := by decide +kernel
theorem dX12_bestOf_71 : decode cX12_bestOf 71 = .ok (.lmul, 1) := by decide +kernel
theorem dX12_bestOf_72 : decode cX12_bestOf 72 = .ok (.lstore 7, 2) := by decide +kernel
theorem dX12_bestOf_74 : decode cX12_bestOf 74 = .ok (.iinc 9 1, 3) := by decide +kernel
theorem dX12_bestOf_77 : decode cX12_bestOf 77 = .ok (.goto (-39), 3) := by decide +kernel
theorem dX12_bestOf_80 : decode cX12_bestOf 80 = .ok (.lload 5, 2) := by decide +kernel
theorem dX12_bestOf_82 : decode cX12_bestOf 82 = .ok (.lload 7, 2) := by decide +kernel
theorem dX12_bestOf_84 : decode cX12_bestOf 84 = .ok (.lsub, 1) := by decide +kernel
theorem dX12_bestOf_85 : decode cX12_bestOf 85 = .ok (.lload 5, 2) := by decide +kernel
theorem dX12_bestOf_87 : decode cX12_bestOf 87 = .ok (.iload 4, 2) := by decide +kernel
theorem dX12_bestOf_89 : decode cX12_bestOf 89 = .ok (.invokestatic 451, 3) := by decide +kernel
theorem dX12_bestOf_92 : decode cX12_bestOf 92 = .ok (.lreturn, 1) := by decide +kernel
set_option maxRecDepth 20000 in
theorem ggX12_best_X12_isTalk : GoodIn wsX12_best wsX12_isTalk := goodIn_r _ [10, 11, 241, 242, 243, 244, 245, 246, 247, 248, 249, 250, 251, 252, 253, 254, 255, 256, 257, 258, 259, 260, 261, 262, 263, 264, 265, 266, 267, 268, 269, 270, 271, 272, 273, 274, 275, 276, 277, 278, 279, 280, 281, 282, 283, 284, 285, 286, 287, 288, 289, 290, 291, 292, 293, 294, 295, 296, 297, 298, 299] (by decide +kernel) (by decide +kernel)
set_option maxRecDepth 20000 in
theorem gX12_best_X12_isTalk : GoodIn wsX12_best (wsV RX12 414 RX12 yX12_isTalk wsX12_isTalk) := goodIn_app (goodIn_of _ (by decide +kernel)) ggX12_best_X12_isTalk
set_option maxRecDepth 20000 in
theorem ggX12_best_X12_isIn : GoodIn wsX12_best wsX12_isIn := goodIn_r _ [14] (by decide +kernel) (by decide +kernel)
set_option maxRecDepth 20000 in
theorem gX12_best_X12_isIn : GoodIn wsX12_best (va_wsS RX12 199 yX12_isIn wsX12_isIn) := goodIn_app (goodIn_of _ (by decide +kernel)) ggX12_best_X12_isIn
set_option maxRecDepth 20000 in
theorem ggX12_best_X12_bestOf : GoodIn wsX12_best wsX12_bestOf := goodIn_r _ [18, 5, 19, 20, 21, 22, 9, 23, 24, 25, 26, 27, 28, 29, 30, 31, 32, 33, 34, 35, 36, 37, 38, 39, 40, 41, 42, 43, 44, 45, 46, 47, 48, 49, 50, 51, 52, 53, 54, 55, 56, 57, 58, 59, 60, 61, 62, 63, 64, 65, 66, 67, 68, 69, 70, 71, 72, 73, 74, 75, 76, 77, 78, 79, 80, 81, 82, 83, 84, 85, 86, 87, 88, 89, 90, 91, 92, 93, 94, 95, 96, 97, 98, 99, 100, 101, 102, 103, 104, 105, 106, 107, 108, 109, 110, 111, 112, 113, 114, 115, 116, 117, 118, 119, 120, 121, 122, 123, 124, 125, 126, 127, 128, 129, 130, 131, 132, 133, 134, 135, 136, 137, 138, 139, 140, 141, 142, 143, 144, 145, 146, 147, 148, 149, 150, 151, 152, 153, 154, 155, 156, 157, 158, 159, 160, 161, 162, 163, 164, 165, 166, 167, 168, 169, 170, 171, 172, 173, 174, 175, 176, 177, 178, 179, 180, 181, 182, 183, 184, 185, 186, 187, 188, 189, 190, 191, 192, 193, 194, 195, 196, 197, 198, 199, 200, 201, 202, 203, 204, 205, 206, 207, 208, 209, 210, 211, 212, 213, 214, 215, 216, 217, 218, 219, 220, 221, 222, 223, 224, 225, 226, 227, 228, 229, 230, 231, 232, 233, 234, 235, 236, 237, 238, 239, 240, 241, 242, 243, 244, 245, 246, 247, 248, 249, 250, 251, 252, 253, 254, 255, 256, 257, 258, 259, 260, 261, 262, 263, 264, 265, 266, 267, 268, 269, 270, 271, 272, 273, 274, 275, 276, 277, 278, 279, 280, 281, 282, 283, 284, 285, 286, 287, 288, 289, 290, 291, 292, 293, 294, 295, 296, 297, 298, 299] (by decide +kernel) (by decide +kernel)
set_option maxRecDepth 20000 in
theorem gX12_best_X12_bestOf : GoodIn wsX12_best (wsV RX12 455 RX12 yX12_bestOf wsX12_bestOf) := goodIn_app (goodIn_of _ (by decide +kernel)) ggX12_best_X12_bestOf
theorem dX12_best_0 : decode cX12_best 0 = .ok (.aload_n 0, 1) := by decide +kernel
theorem dX12_best_1 : decode cX12_best 1 = .ok (.iconst 0, 1) := by decide +kernel
theorem dX12_best_2 : decode cX12_best 2 = .ok (.putfield 101, 3) := by decide +kernel
theorem dX12_best_5 : decode cX12_best 5 = .ok (.aload_n 0, 1) := by decide +kernel
theorem dX12_best_6 : decode cX12_best 6 = .ok (.iload_n 1, 1) := by decide +kernel
theorem dX12_best_7 : decode cX12_best 7 = .ok (.invokevirtual 414, 3) := by decide +kernel
theorem dX12_best_10 : decode cX12_best 10 = .ok (.ifCond .eq 39, 3) := by decide +kernel
theorem dX12_best_13 : decode cX12_best 13 = .ok (.iload_n 2, 1) := by decide +kernel
theorem dX12_best_14 : decode cX12_best 14 = .ok (.i2l, 1) := by decide +kernel
theorem dX12_best_15 : decode cX12_best 15 = .ok (.lconst 0, 1) := by decide +kernel
theorem dX12_best_16 : decode cX12_best 16 = .ok (.lconst 1, 1) := by decide +kernel
theorem dX12_best_17 : decode cX12_best 17 = .ok (.invokestatic 199, 3) := by decide +kernel
theorem dX12_best_20 : decode cX12_best 20 = .ok (.ifCond .eq 29, 3) := by decide +kernel
theorem dX12_best_23 : decode cX12_best 23 = .ok (.aload_n 0, 1) := by decide +kernel
theorem dX12_best_24 : decode cX12_best 24 = .ok (.aload_n 0, 1) := by decide +kernel
theorem dX12_best_25 : decode cX12_best 25 = .ok (.getfield 65, 3) := by decide +kernel
theorem dX12_best_28 : decode cX12_best 28 = .ok (.iload_n 1, 1) := by decide +kernel
theorem dX12_best_29 : decode cX12_best 29 = .ok (.iaload, 1) := by decide +kernel
theorem dX12_best_30 : decode cX12_best 30 = .ok (.aload_n 0, 1) := by decide +kernel
theorem dX12_best_31 : decode cX12_best 31 = .ok (.getfield 71, 3) := by decide +kernel
theorem dX12_best_34 : decode cX12_best 34 = .ok (.iload_n 1, 1) := by decide +kernel
theorem dX12_best_35 : decode cX12_best 35 = .ok (.iaload, 1) := by decide +kernel
theorem dX12_best_36 : decode cX12_best 36 = .ok (.aload_n 0, 1) := by decide +kernel
theorem dX12_best_37 : decode cX12_best 37 = .ok (.getfield 68, 3) := by decide +kernel
theorem dX12_best_40 : decode cX12_best 40 = .ok (.iload_n 1, 1) := by decide +kernel
theorem dX12_best_41 : decode cX12_best 41 = .ok (.iaload, 1) := by decide +kernel
theorem dX12_best_42 : decode cX12_best 42 = .ok (.iload_n 2, 1) := by decide +kernel
theorem dX12_best_43 : decode cX12_best 43 = .ok (.invokevirtual 455, 3) := by decide +kernel
theorem dX12_best_46 : decode cX12_best 46 = .ok (.goto 6, 3) := by decide +kernel
theorem dX12_best_49 : decode cX12_best 49 = .ok (.ldc2_w 446, 3) := by decide +kernel
theorem dX12_best_52 : decode cX12_best 52 = .ok (.lreturn, 1) := by decide +kernel
set_option maxRecDepth 20000 in
theorem ggX12_bound_X12_isTalk : GoodIn wsX12_bound wsX12_isTalk := goodIn_r _ [16, 17, 232, 233, 234, 235, 236, 237, 238, 239, 240, 241, 242, 243, 244, 245, 246, 247, 248, 249, 250, 251, 252, 253, 254, 255, 256, 257, 258, 259, 260, 261, 262, 263, 264, 265, 266, 267, 268, 269, 270, 271, 272, 273, 274, 275, 276, 277, 278, 279, 280, 281, 282, 283, 284, 285, 286, 287, 288, 289, 290] (by decide +kernel) (by decide +kernel)
set_option maxRecDepth 20000 in
theorem gX12_bound_X12_isTalk : GoodIn wsX12_bound (wsV RX12 414 RX12 yX12_isTalk wsX12_isTalk) := goodIn_app (goodIn_of _ (by decide +kernel)) ggX12_bound_X12_isTalk
set_option maxRecDepth 20000 in
theorem ggX12_bound_X12_isIn : GoodIn wsX12_bound wsX12_isIn := goodIn_r _ [20] (by decide +kernel) (by decide +kernel)
set_option maxRecDepth 20000 in
theorem gX12_bound_X12_isIn : GoodIn wsX12_bound (va_wsS RX12 199 yX12_isIn wsX12_isIn) := goodIn_app (goodIn_of _ (by decide +kernel)) ggX12_bound_X12_isIn
set_option maxRecDepth 20000 in
theorem ggX12_bound_X12_product : GoodIn wsX12_bound wsX12_product := goodIn_r _ [24, 6, 25, 26, 27, 28, 15, 29, 8, 9, 10, 11, 30, 31, 32, 33, 34, 35, 36, 37, 7, 38, 39, 40, 41, 42, 43, 44, 45, 46, 47, 48, 49, 50, 51, 52, 53, 54, 55, 56, 57, 58, 59, 60, 61, 62, 63, 64, 65, 66, 67, 68, 69, 70, 71, 72, 73, 74, 75, 76, 77, 78, 79, 80, 81, 82, 83, 84, 85, 86, 87, 88, 89, 90, 91, 92, 93, 94, 95, 96, 97, 98, 99, 100, 101, 102, 103, 104, 105, 106, 107, 108, 109, 110, 111, 112, 113, 114, 115, 116, 117, 118, 119, 120, 121, 122, 123, 124, 125, 126, 127, 128, 129, 130, 131, 132, 133, 134, 135, 136, 137, 138, 139, 140, 141, 142, 143, 144, 145, 146, 147, 148, 149, 150, 151, 152, 153, 154, 155, 156, 157, 158, 159, 160, 161, 162, 163, 164, 165, 166, 167, 168, 169, 170, 171, 172, 173, 174, 175, 176, 177, 178, 179, 180, 181, 182, 183, 184, 185, 186, 187, 188, 189, 190, 191, 192, 193, 194, 195, 196, 197, 198, 199, 200, 201, 202, 203, 204, 205, 206, 207, 208, 209, 210, 211, 212, 213, 214, 215, 216, 217, 232, 233, 234, 235, 236, 237, 238, 239, 240, 241, 242, 243, 244, 245, 246, 247, 248, 249, 250, 251, 252, 253, 254, 255, 256, 257, 258, 259, 260, 261, 262, 263, 264, 265, 266, 267, 268, 269, 270, 271, 272, 273, 274, 275, 276, 277, 278, 279, 280, 281, 282, 283, 284, 285, 286, 287, 288, 289, 290] (by decide +kernel) (by decide +kernel)
set_option maxRecDepth 20000 in
theorem gX12_bound_X12_product : GoodIn wsX12_bound (wsV RX12 443 RX12 yX12_product wsX12_product) := goodIn_app (goodIn_of _ (by decide +kernel)) ggX12_bound_X12_product
set_option maxRecDepth 20000 in
theorem ggX12_bound_X12_asksEnd : GoodIn wsX12_bound wsX12_asksEnd := goodIn_r _ [221, 6, 33, 34, 35, 15, 36, 37, 7, 38, 39, 40, 41, 42, 43, 44, 45, 46, 47, 48, 49, 50, 51, 52, 53, 54, 55, 56, 57, 58, 59, 60, 61, 62, 63, 64, 65, 66, 67, 68, 69, 70, 71, 72, 73, 74, 75, 76, 77, 78, 79, 80, 81, 82, 83, 84, 85, 86, 87, 88, 89, 90, 91, 92, 93, 94, 95, 96, 97, 98, 99, 100, 101, 102, 103, 104, 105, 10, 106, 107, 108, 109, 110, 111, 112, 113, 114, 115, 116, 117, 118, 119, 120, 121, 122, 123, 124, 125, 126, 127, 128, 129, 130, 131, 132, 133, 134, 135, 136, 137, 138, 139, 140, 141, 142, 143, 144, 145, 146, 147, 148, 149, 150, 151, 152, 153, 154, 155, 156, 157, 158, 159, 160, 161, 162, 163, 164, 165, 166, 167, 168, 169, 170, 171, 172, 173, 174, 175, 176, 177, 178, 179, 180, 181, 182, 183, 184, 185, 186, 187, 188, 189, 190, 191, 192, 193, 194, 195, 8, 9, 11, 30, 31, 32, 196, 197, 198, 199, 200, 201, 202, 203, 204, 205, 206, 207, 208, 209, 210, 211, 212, 213, 214, 215, 216, 217, 232, 233, 234, 235, 236, 237, 238, 239, 240, 241, 242, 243, 244, 245, 246, 247, 248, 249, 250, 251, 252, 253, 254, 255, 256, 257, 258, 259, 260, 261, 262, 263, 264, 265, 266, 267, 268, 269, 270, 271, 272, 273, 274, 275, 276, 277, 278, 279, 280, 281, 282, 283, 284, 285, 286, 287, 288, 289, 290] (by decide +kernel) (by decide +kernel)
set_option maxRecDepth 20000 in
theorem gX12_bound_X12_asksEnd : GoodIn wsX12_bound (wsV RX12 337 RX12 yX12_asksEnd wsX12_asksEnd) := goodIn_app (goodIn_of _ (by decide +kernel)) ggX12_bound_X12_asksEnd
set_option maxRecDepth 20000 in
theorem ggX12_bound_X12_asksSum : GoodIn wsX12_bound wsX12_asksSum := goodIn_r _ [225, 33, 34, 35, 15, 36, 37, 6, 7, 38, 39, 40, 41, 42, 43, 44, 45, 46, 47, 48, 49, 50, 51, 52, 53, 54, 55, 56, 57, 58, 59, 60, 61, 62, 63, 64, 65, 66, 67, 68, 69, 70, 71, 72, 73, 74, 75, 76, 77, 78, 79, 80, 81, 82, 83, 84, 85, 86, 87, 88, 89, 90, 91, 92, 93, 94, 95, 96, 97, 98, 99, 100, 101, 102, 103, 104, 105, 10, 106, 107, 108, 109, 110, 111, 112, 113, 114, 115, 116, 117, 118, 119, 120, 121, 122, 123, 124, 125, 126, 127, 128, 129, 130, 131, 132, 133, 134, 135, 136, 137, 138, 139, 140, 141, 142, 143, 144, 145, 146, 147, 148, 149, 150, 151, 152, 153, 154, 155, 156, 157, 158, 159, 160, 161, 162, 163, 164, 165, 166, 167, 168, 169, 170, 171, 172, 173, 174, 175, 176, 177, 178, 179, 180, 181, 182, 183, 184, 185, 186, 187, 188, 189, 190, 191, 192, 193, 194, 195, 8, 9, 11, 30, 31, 32, 196, 197, 198, 199, 200, 201, 202, 203, 204, 205, 206, 207, 208, 209, 210, 211, 212, 213, 214, 215, 216, 217, 232, 233, 234, 235, 236, 237, 238, 239, 240, 241, 242, 243, 244, 245, 246, 247, 248, 249, 250, 251, 252, 253, 254, 255, 256, 257, 258, 259, 260, 261, 262, 263, 264, 265, 266, 267, 268, 269, 270, 271, 272, 273, 274, 275, 276, 277, 278, 279, 280, 281, 282, 283, 284, 285, 286, 287, 288, 289, 290] (by decide +kernel) (by decide +kernel)
set_option maxRecDepth 20000 in
theorem gX12_bound_X12_asksSum : GoodIn wsX12_bound (wsV RX12 372 RX12 yX12_asksSum wsX12_asksSum) := goodIn_app (goodIn_of _ (by decide +kernel)) ggX12_bound_X12_asksSum
set_option maxRecDepth 20000 in
theorem ggX12_bound_X12_draws : GoodIn wsX12_bound wsX12_draws := goodIn_r _ [29, 8, 9, 10, 11, 30, 31, 32, 33, 34, 35, 15, 36, 37, 6, 7, 38, 39, 40, 41, 42, 43, 44, 45, 46, 47, 48, 49, 50, 51, 52, 53, 54, 55, 56, 57, 58, 59, 60, 61, 62, 63, 64, 65, 66, 67, 68, 69, 70, 71, 72, 73, 74, 75, 76, 77, 78, 79, 80, 81, 82, 83, 84, 85, 86, 87, 88, 89, 90, 91, 92, 93, 94, 95, 96, 97, 98, 99, 100, 101, 102, 103, 104, 105, 106, 107, 108, 109, 110, 111, 112, 113, 114, 115, 116, 117, 118, 119, 120, 121, 122, 123, 124, 125, 126, 127, 128, 129, 130, 131, 132, 133, 134, 135, 136, 137, 138, 139, 140, 141, 142, 143, 144, 145, 146, 147, 148, 149, 150, 151, 152, 153, 154, 155, 156, 157, 158, 159, 160, 161, 162, 163, 164, 165, 166, 167, 168, 169, 170, 171, 172, 173, 174, 175, 176, 177, 178, 179, 180, 181, 182, 183, 184, 185, 186, 187, 188, 189, 190, 191, 192, 193, 194, 195, 196, 197, 198, 199, 200, 201, 202, 203, 204, 205, 206, 207, 208, 209, 210, 211, 212, 213, 214, 215, 216, 217, 232, 233, 234, 235, 236, 237, 238, 239, 240, 241, 242, 243, 244, 245, 246, 247, 248, 249, 250, 251, 252, 253, 254, 255, 256, 257, 258, 259, 260, 261, 262, 263, 264, 265, 266, 267, 268, 269, 270, 271, 272, 273, 274, 275, 276, 277, 278, 279, 280, 281, 282, 283, 284, 285, 286, 287, 288, 289, 290] (by decide +kernel) (by decide +kernel)
set_option maxRecDepth 20000 in
theorem gX12_bound_X12_draws : GoodIn wsX12_bound (wsV RX12 380 RX12 yX12_draws wsX12_draws) := goodIn_app (goodIn_of _ (by decide +kernel)) ggX12_bound_X12_draws
set_option maxRecDepth 20000 in
theorem ggX12_bound_X12_fraction : GoodIn wsX12_bound wsX12_fraction := goodIn_r _ [228, 229, 230, 15, 231] (by decide +kernel) (by decide +kernel)
set_option maxRecDepth 20000 in
theorem gX12_bound_X12_fraction : GoodIn wsX12_bound (va_wsS RX12 451 yX12_fraction wsX12_fraction) := goodIn_app (goodIn_of _ (by decide +kernel)) ggX12_bound_X12_fraction
theorem dX12_bound_0 : decode cX12_bound 0 = .ok (.aload_n 0, 1) := by decide +kernel
theorem dX12_bound_1 : decode cX12_bound 1 = .ok (.iconst 0, 1) := by decide +kernel
theorem dX12_bound_2 : decode cX12_bound 2 = .ok (.putfield 101, 3) := by decide +kernel
theorem dX12_bound_5 : decode cX12_bound 5 = .ok (.aload_n 0, 1) := by decide +kernel
theorem dX12_bound_6 : decode cX12_bound 6 = .ok (.iload_n 1, 1) := by decide +kernel
theorem dX12_bound_7 : decode cX12_bound 7 = .ok (.invokevirtual 414, 3) := by decide +kernel
theorem dX12_bound_10 : decode cX12_bound 10 = .ok (.ifCond .eq 13, 3) := by decide +kernel
theorem dX12_bound_13 : decode cX12_bound 13 = .ok (.iload_n 2, 1) := by decide +kernel
theorem dX12_bound_14 : decode cX12_bound 14 = .ok (.i2l, 1) := by decide +kernel
theorem dX12_bound_15 : decode cX12_bound 15 = .ok (.lconst 0, 1) := by decide +kernel
theorem dX12_bound_16 : decode cX12_bound 16 = .ok (.lconst 1, 1) := by decide +kernel
theorem dX12_bound_17 : decode cX12_bound 17 = .ok (.invokestatic 199, 3) := by decide +kernel
theorem dX12_bound_20 : decode cX12_bound 20 = .ok (.ifCond .ne 7, 3) := by decide +kernel
theorem dX12_bound_23 : decode cX12_bound 23 = .ok (.ldc2_w 446, 3) := by decide +kernel
theorem dX12_bound_26 : decode cX12_bound 26 = .ok (.lreturn, 1) := by decide +kernel
theorem dX12_bound_27 : decode cX12_bound 27 = .ok (.aload_n 0, 1) := by decide +kernel
theorem dX12_bound_28 : decode cX12_bound 28 = .ok (.getfield 65, 3) := by decide +kernel
theorem dX12_bound_31 : decode cX12_bound 31 = .ok (.iload_n 1, 1) := by decide +kernel
theorem dX12_bound_32 : decode cX12_bound 32 = .ok (.iaload, 1) := by decide +kernel
theorem dX12_bound_33 : decode cX12_bound 33 = .ok (.istore_n 3, 1) := by decide +kernel
theorem dX12_bound_34 : decode cX12_bound 34 = .ok (.aload_n 0, 1) := by decide +kernel
theorem dX12_bound_35 : decode cX12_bound 35 = .ok (.getfield 71, 3) := by decide +kernel
theorem dX12_bound_38 : decode cX12_bound 38 = .ok (.iload_n 1, 1) := by decide +kernel
theorem dX12_bound_39 : decode cX12_bound 39 = .ok (.iaload, 1) := by decide +kernel
theorem dX12_bound_40 : decode cX12_bound 40 = .ok (.istore 4, 2) := by decide +kernel
theorem dX12_bound_42 : decode cX12_bound 42 = .ok (.aload_n 0, 1) := by decide +kernel
theorem dX12_bound_43 : decode cX12_bound 43 = .ok (.getfield 68, 3) := by decide +kernel
theorem dX12_bound_46 : decode cX12_bound 46 = .ok (.iload_n 1, 1) := by decide +kernel
theorem dX12_bound_47 : decode cX12_bound 47 = .ok (.iaload, 1) := by decide +kernel
theorem dX12_bound_48 : decode cX12_bound 48 = .ok (.istore 5, 2) := by decide +kernel
theorem dX12_bound_50 : decode cX12_bound 50 = .ok (.aload_n 0, 1) := by decide +kernel
theorem dX12_bound_51 : decode cX12_bound 51 = .ok (.iload_n 3, 1) := by decide +kernel
theorem dX12_bound_52 : decode cX12_bound 52 = .ok (.iload 4, 2) := by decide +kernel
theorem dX12_bound_54 : decode cX12_bound 54 = .ok (.iload 5, 2) := by decide +kernel
theorem dX12_bound_56 : decode cX12_bound 56 = .ok (.invokevirtual 443, 3) := by decide +kernel
theorem dX12_bound_59 : decode cX12_bound 59 = .ok (.lstore 6, 2) := by decide +kernel
theorem dX12_bound_61 : decode cX12_bound 61 = .ok (.lload 6, 2) := by decide +kernel
theorem dX12_bound_63 : decode cX12_bound 63 = .ok (.lconst 0, 1) := by decide +kernel
theorem dX12_bound_64 : decode cX12_bound 64 = .ok (.lcmp, 1) := by decide +kernel
theorem dX12_bound_65 : decode cX12_bound 65 = .ok (.ifCond .ne 7, 3) := by decide +kernel
theorem dX12_bound_68 : decode cX12_bound 68 = .ok (.ldc2_w 446, 3) := by decide +kernel
theorem dX12_bound_71 : decode cX12_bound 71 = .ok (.lreturn, 1) := by decide +kernel
theorem dX12_bound_72 : decode cX12_bound 72 = .ok (.aload_n 0, 1) := by decide +kernel
theorem dX12_bound_73 : decode cX12_bound 73 = .ok (.iload 4, 2) := by decide +kernel
theorem dX12_bound_75 : decode cX12_bound 75 = .ok (.iload_n 3, 1) := by decide +kernel
theorem dX12_bound_76 : decode cX12_bound 76 = .ok (.iload 5, 2) := by decide +kernel
theorem dX12_bound_78 : decode cX12_bound 78 = .ok (.invokevirtual 337, 3) := by decide +kernel
theorem dX12_bound_81 : decode cX12_bound 81 = .ok (.ifCond .ne 5, 3) := by decide +kernel
theorem dX12_bound_84 : decode cX12_bound 84 = .ok (.lconst 1, 1) := by decide +kernel
theorem dX12_bound_85 : decode cX12_bound 85 = .ok (.lreturn, 1) := by decide +kernel
theorem dX12_bound_86 : decode cX12_bound 86 = .ok (.lconst 0, 1) := by decide +kernel
theorem dX12_bound_87 : decode cX12_bound 87 = .ok (.lstore 8, 2) := by decide +kernel
theorem dX12_bound_89 : decode cX12_bound 89 = .ok (.iconst 0, 1) := by decide +kernel
theorem dX12_bound_90 : decode cX12_bound 90 = .ok (.istore 10, 2) := by decide +kernel
theorem dX12_bound_92 : decode cX12_bound 92 = .ok (.iload 10, 2) := by decide +kernel
theorem dX12_bound_94 : decode cX12_bound 94 = .ok (.aload_n 0, 1) := by decide +kernel
theorem dX12_bound_95 : decode cX12_bound 95 = .ok (.getfield 23, 3) := by decide +kernel
theorem dX12_bound_98 : decode cX12_bound 98 = .ok (.iload_n 3, 1) := by decide +kernel
theorem dX12_bound_99 : decode cX12_bound 99 = .ok (.iaload, 1) := by decide +kernel
theorem dX12_bound_100 : decode cX12_bound 100 = .ok (.if_icmp .ge 62, 3) := by decide +kernel
theorem dX12_bound_103 : decode cX12_bound 103 = .ok (.lload 8, 2) := by decide +kernel
theorem dX12_bound_105 : decode cX12_bound 105 = .ok (.aload_n 0, 1) := by decide +kernel
theorem dX12_bound_106 : decode cX12_bound 106 = .ok (.iload 4, 2) := by decide +kernel
theorem dX12_bound_108 : decode cX12_bound 108 = .ok (.iload_n 3, 1) := by decide +kernel
theorem dX12_bound_109 : decode cX12_bound 109 = .ok (.iload 5, 2) := by decide +kernel
theorem dX12_bound_111 : decode cX12_bound 111 = .ok (.iload 10, 2) := by decide +kernel
theorem dX12_bound_113 : decode cX12_bound 113 = .ok (.invokevirtual 372, 3) := by decide +kernel
theorem dX12_bound_116 : decode cX12_bound 116 = .ok (.ifCond .eq 35, 3) := by decide +kernel
theorem dX12_bound_119 : decode cX12_bound 119 = .ok (.lload 6, 2) := by decide +kernel
theorem dX12_bound_121 : decode cX12_bound 121 = .ok (.aload_n 0, 1) := by decide +kernel
theorem dX12_bound_122 : decode cX12_bound 122 = .ok (.iload 4, 2) := by decide +kernel
theorem dX12_bound_124 : decode cX12_bound 124 = .ok (.iload_n 3, 1) := by decide +kernel
theorem dX12_bound_125 : decode cX12_bound 125 = .ok (.iload 5, 2) := by decide +kernel
theorem dX12_bound_127 : decode cX12_bound 127 = .ok (.iload 10, 2) := by decide +kernel
theorem dX12_bound_129 : decode cX12_bound 129 = .ok (.invokevirtual 380, 3) := by decide +kernel
theorem dX12_bound_132 : decode cX12_bound 132 = .ok (.i2l, 1) := by decide +kernel
theorem dX12_bound_133 : decode cX12_bound 133 = .ok (.ldiv, 1) := by decide +kernel
theorem dX12_bound_134 : decode cX12_bound 134 = .ok (.aload_n 0, 1) := by decide +kernel
theorem dX12_bound_135 : decode cX12_bound 135 = .ok (.getfield 26, 3) := by decide +kernel
theorem dX12_bound_138 : decode cX12_bound 138 = .ok (.bipush 6, 2) := by decide +kernel
theorem dX12_bound_140 : decode cX12_bound 140 = .ok (.iload_n 3, 1) := by decide +kernel
theorem dX12_bound_141 : decode cX12_bound 141 = .ok (.imul, 1) := by decide +kernel
theorem dX12_bound_142 : decode cX12_bound 142 = .ok (.iload 10, 2) := by decide +kernel
theorem dX12_bound_144 : decode cX12_bound 144 = .ok (.iadd, 1) := by decide +kernel
theorem dX12_bound_145 : decode cX12_bound 145 = .ok (.iaload, 1) := by decide +kernel
theorem dX12_bound_146 : decode cX12_bound 146 = .ok (.i2l, 1) := by decide +kernel
theorem dX12_bound_147 : decode cX12_bound 147 = .ok (.lmul, 1) := by decide +kernel
theorem dX12_bound_148 : decode cX12_bound 148 = .ok (.goto 5, 3) := by decide +kernel
theorem dX12_bound_151 : decode cX12_bound 151 = .ok (.lload 6, 2) := by decide +kernel
theorem dX12_bound_153 : decode cX12_bound 153 = .ok (.ladd, 1) := by decide +kernel
theorem dX12_bound_154 : decode cX12_bound 154 = .ok (.lstore 8, 2) := by decide +kernel
theorem dX12_bound_156 : decode cX12_bound 156 = .ok (.iinc 10 1, 3) := by decide +kernel
theorem dX12_bound_159 : decode cX12_bound 159 = .ok (.goto (-67), 3) := by decide +kernel
theorem dX12_bound_162 : decode cX12_bound 162 = .ok (.lload 8, 2) := by decide +kernel
theorem dX12_bound_164 : decode cX12_bound 164 = .ok (.lload 6, 2) := by decide +kernel
theorem dX12_bound_166 : decode cX12_bound 166 = .ok (.invokestatic 240, 3) := by decide +kernel
theorem dX12_bound_169 : decode cX12_bound 169 = .ok (.lload 6, 2) := by decide +kernel
theorem dX12_bound_171 : decode cX12_bound 171 = .ok (.iload_n 2, 1) := by decide +kernel
theorem dX12_bound_172 : decode cX12_bound 172 = .ok (.invokestatic 451, 3) := by decide +kernel
theorem dX12_bound_175 : decode cX12_bound 175 = .ok (.lreturn, 1) := by decide +kernel
set_option maxRecDepth 20000 in
theorem ggX12_roots_X12_isTalk : GoodIn wsX12_roots wsX12_isTalk := goodIn_r _ [10, 11, 226, 227, 228, 229, 230, 231, 232, 233, 234, 235, 236, 237, 238, 239, 240, 241, 242, 243, 244, 245, 246, 247, 248, 249, 250, 251, 252, 253, 254, 255, 256, 257, 258, 259, 260, 261, 262, 263, 264, 265, 266, 267, 268, 269, 270, 271, 272, 273, 274, 275, 276, 277, 278, 279, 280, 281, 282, 283, 284] (by decide +kernel) (by decide +kernel)
set_option maxRecDepth 20000 in
theorem gX12_roots_X12_isTalk : GoodIn wsX12_roots (wsV RX12 414 RX12 yX12_isTalk wsX12_isTalk) := goodIn_app (goodIn_of _ (by decide +kernel)) ggX12_roots_X12_isTalk
set_option maxRecDepth 20000 in
theorem ggX12_roots_X12_isIn : GoodIn wsX12_roots wsX12_isIn := goodIn_r _ [14] (by decide +kernel) (by decide +kernel)
set_option maxRecDepth 20000 in
theorem gX12_roots_X12_isIn : GoodIn wsX12_roots (va_wsS RX12 199 yX12_isIn wsX12_isIn) := goodIn_app (goodIn_of _ (by decide +kernel)) ggX12_roots_X12_isIn
set_option maxRecDepth 20000 in
theorem ggX12_roots_X12_product : GoodIn wsX12_roots wsX12_product := goodIn_r _ [18, 2, 19, 20, 21, 22, 9, 23, 24, 25, 26, 27, 28, 29, 30, 31, 32, 33, 34, 35, 36, 37, 38, 39, 40, 41, 42, 43, 44, 45, 46, 47, 48, 49, 50, 51, 52, 53, 54, 55, 56, 57, 58, 59, 60, 61, 62, 63, 64, 65, 66, 67, 68, 69, 70, 71, 72, 73, 74, 75, 76, 77, 78, 79, 80, 81, 82, 83, 84, 85, 86, 87, 88, 89, 90, 91, 92, 93, 94, 95, 96, 97, 98, 99, 100, 101, 102, 103, 104, 105, 106, 107, 108, 109, 110, 111, 112, 113, 114, 115, 116, 117, 118, 119, 120, 121, 122, 123, 124, 125, 126, 127, 128, 129, 130, 131, 132, 133, 134, 135, 136, 137, 138, 139, 140, 141, 142, 143, 144, 145, 146, 147, 148, 149, 150, 151, 152, 153, 154, 155, 156, 157, 158, 159, 160, 161, 162, 163, 164, 165, 166, 167, 168, 169, 170, 171, 172, 173, 174, 175, 176, 177, 178, 179, 180, 181, 182, 183, 184, 185, 186, 187, 188, 189, 190, 191, 192, 193, 194, 195, 196, 197, 198, 199, 200, 201, 202, 203, 204, 205, 206, 207, 208, 209, 210, 211, 212, 213, 214, 215, 216, 226, 227, 228, 229, 230, 231, 232, 233, 234, 235, 236, 237, 238, 239, 240, 241, 242, 243, 244, 245, 246, 247, 248, 249, 250, 251, 252, 253, 254, 255, 256, 257, 258, 259, 260, 261, 262, 263, 264, 265, 266, 267, 268, 269, 270, 271, 272, 273, 274, 275, 276, 277, 278, 279, 280, 281, 282, 283, 284] (by decide +kernel) (by decide +kernel)
set_option maxRecDepth 20000 in
theorem gX12_roots_X12_product : GoodIn wsX12_roots (wsV RX12 443 RX12 yX12_product wsX12_product) := goodIn_app (goodIn_of _ (by decide +kernel)) ggX12_roots_X12_product
set_option maxRecDepth 20000 in
theorem ggX12_roots_X12_rootsIn : GoodIn wsX12_roots wsX12_rootsIn := goodIn_r _ [220, 36, 221, 107, 26, 108, 20, 21, 22, 9, 23, 24, 25, 27, 28, 29, 30, 31, 32, 33, 34, 35, 2, 37, 38, 39, 40, 41, 42, 43, 44, 45, 46, 47, 48, 49, 50, 51, 52, 53, 54, 55, 56, 57, 58, 59, 60, 61, 62, 63, 64, 65, 66, 67, 68, 69, 70, 71, 72, 73, 74, 75, 76, 77, 78, 79, 80, 81, 82, 83, 84, 85, 86, 87, 88, 89, 90, 91, 92, 93, 94, 95, 96, 97, 98, 99, 100, 101, 102, 103, 104, 105, 106, 109, 110, 111, 112, 113, 114, 115, 116, 117, 118, 119, 120, 121, 122, 123, 124, 125, 126, 127, 128, 129, 130, 131, 132, 133, 134, 135, 136, 137, 138, 139, 140, 141, 142, 143, 144, 145, 146, 147, 148, 149, 150, 151, 152, 153, 154, 155, 156, 157, 158, 159, 160, 161, 162, 163, 164, 165, 166, 167, 168, 169, 170, 171, 172, 173, 174, 175, 176, 177, 178, 179, 180, 181, 182, 183, 184, 185, 186, 187, 188, 189, 190, 191, 192, 193, 194, 195, 196, 197, 198, 199, 200, 201, 202, 203, 204, 205, 206, 207, 208, 209, 210, 211, 212, 213, 214, 215, 216, 222, 223, 224, 225, 226, 227, 228, 229, 230, 231, 232, 233, 234, 235, 236, 237, 238, 239, 240, 241, 242, 243, 244, 245, 246, 247, 248, 249, 250, 251, 252, 253, 254, 255, 256, 257, 258, 259, 260, 261, 262, 263, 264, 265, 266, 267, 268, 269, 270, 271, 272, 273, 274, 275, 276, 277, 278, 279, 280, 281, 282, 283, 284] (by decide +kernel) (by decide +kernel)
set_option maxRecDepth 20000 in
theorem gX12_roots_X12_rootsIn : GoodIn wsX12_roots (wsV RX12 448 RX12 yX12_rootsIn wsX12_rootsIn) := goodIn_app (goodIn_of _ (by decide +kernel)) ggX12_roots_X12_rootsIn
theorem dX12_roots_0 : decode cX12_roots 0 = .ok (.aload_n 0, 1) := by decide +kernel
theorem dX12_roots_1 : decode cX12_roots 1 = .ok (.iconst 0, 1) := by decide +kernel
theorem dX12_roots_2 : decode cX12_roots 2 = .ok (.putfield 101, 3) := by decide +kernel
theorem dX12_roots_5 : decode cX12_roots 5 = .ok (.aload_n 0, 1) := by decide +kernel
theorem dX12_roots_6 : decode cX12_roots 6 = .ok (.iload_n 1, 1) := by decide +kernel
theorem dX12_roots_7 : decode cX12_roots 7 = .ok (.invokevirtual 414, 3) := by decide +kernel
theorem dX12_roots_10 : decode cX12_roots 10 = .ok (.ifCond .eq 53, 3) := by decide +kernel
theorem dX12_roots_13 : decode cX12_roots 13 = .ok (.iload_n 2, 1) := by decide +kernel
theorem dX12_roots_14 : decode cX12_roots 14 = .ok (.i2l, 1) := by decide +kernel
theorem dX12_roots_15 : decode cX12_roots 15 = .ok (.lconst 0, 1) := by decide +kernel
theorem dX12_roots_16 : decode cX12_roots 16 = .ok (.aload_n 0, 1) := by decide +kernel
theorem dX12_roots_17 : decode cX12_roots 17 = .ok (.getfield 23, 3) := by decide +kernel
theorem dX12_roots_20 : decode cX12_roots 20 = .ok (.aload_n 0, 1) := by decide +kernel
theorem dX12_roots_21 : decode cX12_roots 21 = .ok (.getfield 65, 3) := by decide +kernel
theorem dX12_roots_24 : decode cX12_roots 24 = .ok (.iload_n 1, 1) := by decide +kernel
theorem dX12_roots_25 : decode cX12_roots 25 = .ok (.iaload, 1) := by decide +kernel
theorem dX12_roots_26 : decode cX12_roots 26 = .ok (.iaload, 1) := by decide +kernel
theorem dX12_roots_27 : decode cX12_roots 27 = .ok (.iconst 1, 1) := by decide +kernel
theorem dX12_roots_28 : decode cX12_roots 28 = .ok (.isub, 1) := by decide +kernel
theorem dX12_roots_29 : decode cX12_roots 29 = .ok (.i2l, 1) := by decide +kernel
theorem dX12_roots_30 : decode cX12_roots 30 = .ok (.invokestatic 199, 3) := by decide +kernel
theorem dX12_roots_33 : decode cX12_roots 33 = .ok (.ifCond .eq 30, 3) := by decide +kernel
theorem dX12_roots_36 : decode cX12_roots 36 = .ok (.aload_n 0, 1) := by decide +kernel
theorem dX12_roots_37 : decode cX12_roots 37 = .ok (.aload_n 0, 1) := by decide +kernel
theorem dX12_roots_38 : decode cX12_roots 38 = .ok (.getfield 65, 3) := by decide +kernel
theorem dX12_roots_41 : decode cX12_roots 41 = .ok (.iload_n 1, 1) := by decide +kernel
theorem dX12_roots_42 : decode cX12_roots 42 = .ok (.iaload, 1) := by decide +kernel
theorem dX12_roots_43 : decode cX12_roots 43 = .ok (.aload_n 0, 1) := by decide +kernel
theorem dX12_roots_44 : decode cX12_roots 44 = .ok (.getfield 71, 3) := by decide +kernel
theorem dX12_roots_47 : decode cX12_roots 47 = .ok (.iload_n 1, 1) := by decide +kernel
theorem dX12_roots_48 : decode cX12_roots 48 = .ok (.iaload, 1) := by decide +kernel
theorem dX12_roots_49 : decode cX12_roots 49 = .ok (.aload_n 0, 1) := by decide +kernel
theorem dX12_roots_50 : decode cX12_roots 50 = .ok (.getfield 68, 3) := by decide +kernel
theorem dX12_roots_53 : decode cX12_roots 53 = .ok (.iload_n 1, 1) := by decide +kernel
theorem dX12_roots_54 : decode cX12_roots 54 = .ok (.iaload, 1) := by decide +kernel
theorem dX12_roots_55 : decode cX12_roots 55 = .ok (.invokevirtual 443, 3) := by decide +kernel
theorem dX12_roots_58 : decode cX12_roots 58 = .ok (.lconst 0, 1) := by decide +kernel
theorem dX12_roots_59 : decode cX12_roots 59 = .ok (.lcmp, 1) := by decide +kernel
theorem dX12_roots_60 : decode cX12_roots 60 = .ok (.ifCond .ne 5, 3) := by decide +kernel
theorem dX12_roots_63 : decode cX12_roots 63 = .ok (.iconst (-1), 1) := by decide +kernel
theorem dX12_roots_64 : decode cX12_roots 64 = .ok (.ireturn, 1) := by decide +kernel
theorem dX12_roots_65 : decode cX12_roots 65 = .ok (.aload_n 0, 1) := by decide +kernel
theorem dX12_roots_66 : decode cX12_roots 66 = .ok (.aload_n 0, 1) := by decide +kernel
theorem dX12_roots_67 : decode cX12_roots 67 = .ok (.getfield 65, 3) := by decide +kernel
theorem dX12_roots_70 : decode cX12_roots 70 = .ok (.iload_n 1, 1) := by decide +kernel
theorem dX12_roots_71 : decode cX12_roots 71 = .ok (.iaload, 1) := by decide +kernel
theorem dX12_roots_72 : decode cX12_roots 72 = .ok (.aload_n 0, 1) := by decide +kernel
theorem dX12_roots_73 : decode cX12_roots 73 = .ok (.getfield 71, 3) := by decide +kernel
theorem dX12_roots_76 : decode cX12_roots 76 = .ok (.iload_n 1, 1) := by decide +kernel
theorem dX12_roots_77 : decode cX12_roots 77 = .ok (.iaload, 1) := by decide +kernel
theorem dX12_roots_78 : decode cX12_roots 78 = .ok (.aload_n 0, 1) := by decide +kernel
theorem dX12_roots_79 : decode cX12_roots 79 = .ok (.getfield 68, 3) := by decide +kernel
theorem dX12_roots_82 : decode cX12_roots 82 = .ok (.iload_n 1, 1) := by decide +kernel
theorem dX12_roots_83 : decode cX12_roots 83 = .ok (.iaload, 1) := by decide +kernel
theorem dX12_roots_84 : decode cX12_roots 84 = .ok (.iload_n 2, 1) := by decide +kernel
theorem dX12_roots_85 : decode cX12_roots 85 = .ok (.invokevirtual 448, 3) := by decide +kernel
theorem dX12_roots_88 : decode cX12_roots 88 = .ok (.ireturn, 1) := by decide +kernel
set_option maxRecDepth 20000 in
theorem ggX12_small_X12_isSaying : GoodIn wsX12_small wsX12_isSaying := goodIn_r _ [15, 16, 245, 246, 247, 248, 249, 250, 251, 252, 253, 254, 255, 256, 257, 258, 259, 260, 261, 262, 263, 264, 265, 266, 267, 268, 269, 270, 271, 272, 273, 274, 275, 276, 277, 278, 279, 280, 281, 282, 283, 284, 285, 286, 287, 288, 289, 290, 291, 292, 293, 294, 295, 296, 297, 298, 299, 300, 301, 302, 303] (by decide +kernel) (by decide +kernel)
set_option maxRecDepth 20000 in
theorem gX12_small_X12_isSaying : GoodIn wsX12_small (wsV RX12 194 RX12 yX12_isSaying wsX12_isSaying) := goodIn_app (goodIn_of _ (by decide +kernel)) ggX12_small_X12_isSaying
set_option maxRecDepth 20000 in
theorem ggX12_small_X12_isIn : GoodIn wsX12_small wsX12_isIn := goodIn_r _ [19] (by decide +kernel) (by decide +kernel)
set_option maxRecDepth 20000 in
theorem gX12_small_X12_isIn : GoodIn wsX12_small (va_wsS RX12 199 yX12_isIn wsX12_isIn) := goodIn_app (goodIn_of _ (by decide +kernel)) ggX12_small_X12_isIn
set_option maxRecDepth 20000 in
theorem ggX12_small_X12_isPrime : GoodIn wsX12_small wsX12_isPrime := goodIn_r _ [22, 23] (by decide +kernel) (by decide +kernel)
set_option maxRecDepth 20000 in
theorem gX12_small_X12_isPrime : GoodIn wsX12_small (va_wsS RX12 219 yX12_isPrime wsX12_isPrime) := goodIn_app (goodIn_of _ (by decide +kernel)) ggX12_small_X12_isPrime
set_option maxRecDepth 20000 in
theorem ggX12_small_X12_bestOf : GoodIn wsX12_small wsX12_bestOf := goodIn_r _ [27, 10, 4, 28, 29, 30, 14, 31, 32, 33, 34, 35, 36, 37, 38, 8, 39, 40, 41, 42, 43, 44, 45, 46, 47, 5, 48, 49, 50, 51, 52, 53, 54, 55, 56, 57, 58, 59, 60, 61, 62, 63, 64, 65, 66, 67, 68, 69, 70, 71, 72, 73, 74, 75, 76, 77, 78, 79, 80, 81, 82, 83, 84, 85, 86, 87, 88, 89, 90, 91, 92, 93, 94, 95, 96, 97, 98, 99, 100, 101, 102, 103, 104, 105, 106, 107, 108, 109, 110, 111, 112, 113, 114, 7, 9, 115, 116, 117, 118, 119, 120, 121, 122, 123, 124, 125, 126, 127, 128, 129, 130, 131, 132, 133, 134, 135, 136, 137, 138, 139, 140, 141, 142, 143, 144, 145, 146, 147, 148, 149, 150, 151, 152, 153, 154, 155, 156, 157, 158, 159, 160, 161, 162, 163, 164, 165, 166, 167, 168, 169, 170, 171, 172, 173, 174, 175, 176, 177, 178, 179, 180, 181, 182, 183, 184, 185, 186, 187, 188, 189, 190, 191, 192, 193, 194, 195, 196, 197, 198, 199, 200, 201, 202, 203, 204, 205, 206, 207, 208, 209, 210, 211, 212, 213, 214, 215, 216, 217, 218, 219, 220, 221, 222, 223, 224, 225, 226, 227, 228, 229, 230, 231, 232, 233, 234, 235, 236, 237, 238, 239, 240, 241, 242, 243, 244, 245, 246, 247, 248, 249, 250, 251, 252, 253, 254, 255, 256, 257, 258, 259, 260, 261, 262, 263, 264, 265, 266, 267, 268, 269, 270, 271, 272, 273, 274, 275, 276, 277, 278, 279, 280, 281, 282, 283, 284, 285, 286, 287, 288, 289, 290, 291, 292, 293, 294, 295, 296, 297, 298, 299, 300, 301, 302, 303] (by decide +kernel) (by decide +kernel)
set_option maxRecDepth 20000 in
theorem gX12_small_X12_bestOf : GoodIn wsX12_small (wsV RX12 455 RX12 yX12_bestOf wsX12_bestOf) := goodIn_app (goodIn_of _ (by decide +kernel)) ggX12_small_X12_bestOf
theorem dX12_small_0 : decode cX12_small 0 = .ok (.aload_n 0, 1) := by decide +kernel
theorem dX12_small_1 : decode cX12_small 1 = .ok (.iconst 0, 1) := by decide +kernel
theorem dX12_small_2 : decode cX12_small 2 = .ok (.putfield 101, 3) := by decide +kernel
theorem dX12_small_5 : decode cX12_small 5 = .ok (.aload_n 0, 1) := by decide +kernel
theorem dX12_small_6 : decode cX12_small 6 = .ok (.iload_n 1, 1) := by decide +kernel
theorem dX12_small_7 : decode cX12_small 7 = .ok (.invokevirtual 194, 3) := by decide +kernel
theorem dX12_small_10 : decode cX12_small 10 = .ok (.ifCond .eq 31, 3) := by decide +kernel
theorem dX12_small_13 : decode cX12_small 13 = .ok (.iload_n 2, 1) := by decide +kernel
theorem dX12_small_14 : decode cX12_small 14 = .ok (.i2l, 1) := by decide +kernel
theorem dX12_small_15 : decode cX12_small 15 = .ok (.lconst 0, 1) := by decide +kernel
theorem dX12_small_16 : decode cX12_small 16 = .ok (.aload_n 0, 1) := by decide +kernel
theorem dX12_small_17 : decode cX12_small 17 = .ok (.getfield 309, 3) := by decide +kernel
theorem dX12_small_20 : decode cX12_small 20 = .ok (.iconst 1, 1) := by decide +kernel
theorem dX12_small_21 : decode cX12_small 21 = .ok (.isub, 1) := by decide +kernel
theorem dX12_small_22 : decode cX12_small 22 = .ok (.i2l, 1) := by decide +kernel
theorem dX12_small_23 : decode cX12_small 23 = .ok (.invokestatic 199, 3) := by decide +kernel
theorem dX12_small_26 : decode cX12_small 26 = .ok (.ifCond .eq 15, 3) := by decide +kernel
theorem dX12_small_29 : decode cX12_small 29 = .ok (.iload_n 3, 1) := by decide +kernel
theorem dX12_small_30 : decode cX12_small 30 = .ok (.i2l, 1) := by decide +kernel
theorem dX12_small_31 : decode cX12_small 31 = .ok (.lconst 1, 1) := by decide +kernel
theorem dX12_small_32 : decode cX12_small 32 = .ok (.ldc2_w 417, 3) := by decide +kernel
theorem dX12_small_35 : decode cX12_small 35 = .ok (.invokestatic 199, 3) := by decide +kernel
theorem dX12_small_38 : decode cX12_small 38 = .ok (.ifCond .ne 5, 3) := by decide +kernel
theorem dX12_small_41 : decode cX12_small 41 = .ok (.iconst (-1), 1) := by decide +kernel
theorem dX12_small_42 : decode cX12_small 42 = .ok (.ireturn, 1) := by decide +kernel
theorem dX12_small_43 : decode cX12_small 43 = .ok (.iconst 3, 1) := by decide +kernel
theorem dX12_small_44 : decode cX12_small 44 = .ok (.istore 4, 2) := by decide +kernel
theorem dX12_small_46 : decode cX12_small 46 = .ok (.iconst 0, 1) := by decide +kernel
theorem dX12_small_47 : decode cX12_small 47 = .ok (.istore 5, 2) := by decide +kernel
theorem dX12_small_49 : decode cX12_small 49 = .ok (.iload 5, 2) := by decide +kernel
theorem dX12_small_51 : decode cX12_small 51 = .ok (.aload_n 0, 1) := by decide +kernel
theorem dX12_small_52 : decode cX12_small 52 = .ok (.getfield 23, 3) := by decide +kernel
theorem dX12_small_55 : decode cX12_small 55 = .ok (.iload_n 1, 1) := by decide +kernel
theorem dX12_small_56 : decode cX12_small 56 = .ok (.iaload, 1) := by decide +kernel
theorem dX12_small_57 : decode cX12_small 57 = .ok (.if_icmp .ge 30, 3) := by decide +kernel
theorem dX12_small_60 : decode cX12_small 60 = .ok (.iload 4, 2) := by decide +kernel
theorem dX12_small_62 : decode cX12_small 62 = .ok (.aload_n 0, 1) := by decide +kernel
theorem dX12_small_63 : decode cX12_small 63 = .ok (.getfield 26, 3) := by decide +kernel
theorem dX12_small_66 : decode cX12_small 66 = .ok (.bipush 6, 2) := by decide +kernel
theorem dX12_small_68 : decode cX12_small 68 = .ok (.iload_n 1, 1) := by decide +kernel
theorem dX12_small_69 : decode cX12_small 69 = .ok (.imul, 1) := by decide +kernel
theorem dX12_small_70 : decode cX12_small 70 = .ok (.iload 5, 2) := by decide +kernel
theorem dX12_small_72 : decode cX12_small 72 = .ok (.iadd, 1) := by decide +kernel
theorem dX12_small_73 : decode cX12_small 73 = .ok (.iaload, 1) := by decide +kernel
theorem dX12_small_74 : decode cX12_small 74 = .ok (.iconst 1, 1) := by decide +kernel
theorem dX12_small_75 : decode cX12_small 75 = .ok (.iadd, 1) := by decide +kernel
theorem dX12_small_76 : decode cX12_small 76 = .ok (.invokestatic 145, 3) := by decide +kernel
theorem dX12_small_79 : decode cX12_small 79 = .ok (.istore 4, 2) := by decide +kernel
theorem dX12_small_81 : decode cX12_small 81 = .ok (.iinc 5 1, 3) := by decide +kernel
theorem dX12_small_84 : decode cX12_small 84 = .ok (.goto (-35), 3) := by decide +kernel
theorem dX12_small_87 : decode cX12_small 87 = .ok (.iload 4, 2) := by decide +kernel
theorem dX12_small_89 : decode cX12_small 89 = .ok (.istore 5, 2) := by decide +kernel
theorem dX12_small_91 : decode cX12_small 91 = .ok (.iload 5, 2) := by decide +kernel
theorem dX12_small_93 : decode cX12_small 93 = .ok (.sipush 1000, 3) := by decide +kernel
theorem dX12_small_96 : decode cX12_small 96 = .ok (.if_icmp .gt 61, 3) := by decide +kernel
theorem dX12_small_99 : decode cX12_small 99 = .ok (.iload 5, 2) := by decide +kernel
theorem dX12_small_101 : decode cX12_small 101 = .ok (.invokestatic 219, 3) := by decide +kernel
theorem dX12_small_104 : decode cX12_small 104 = .ok (.ifCond .ne 6, 3) := by decide +kernel
theorem dX12_small_107 : decode cX12_small 107 = .ok (.goto 44, 3) := by decide +kernel
theorem dX12_small_110 : decode cX12_small 110 = .ok (.aload_n 0, 1) := by decide +kernel
theorem dX12_small_111 : decode cX12_small 111 = .ok (.iload_n 1, 1) := by decide +kernel
theorem dX12_small_112 : decode cX12_small 112 = .ok (.iload_n 2, 1) := by decide +kernel
theorem dX12_small_113 : decode cX12_small 113 = .ok (.iload 5, 2) := by decide +kernel
theorem dX12_small_115 : decode cX12_small 115 = .ok (.iconst 0, 1) := by decide +kernel
theorem dX12_small_116 : decode cX12_small 116 = .ok (.invokevirtual 455, 3) := by decide +kernel
theorem dX12_small_119 : decode cX12_small 119 = .ok (.lstore 6, 2) := by decide +kernel
theorem dX12_small_121 : decode cX12_small 121 = .ok (.lload 6, 2) := by decide +kernel
theorem dX12_small_123 : decode cX12_small 123 = .ok (.ldc2_w 446, 3) := by decide +kernel
theorem dX12_small_126 : decode cX12_small 126 = .ok (.lcmp, 1) := by decide +kernel
theorem dX12_small_127 : decode cX12_small 127 = .ok (.ifCond .eq 24, 3) := by decide +kernel
theorem dX12_small_130 : decode cX12_small 130 = .ok (.lload 6, 2) := by decide +kernel
theorem dX12_small_132 : decode cX12_small 132 = .ok (.aload_n 0, 1) := by decide +kernel
theorem dX12_small_133 : decode cX12_small 133 = .ok (.iload_n 1, 1) := by decide +kernel
theorem dX12_small_134 : decode cX12_small 134 = .ok (.iload_n 2, 1) := by decide +kernel
theorem dX12_small_135 : decode cX12_small 135 = .ok (.iload 5, 2) := by decide +kernel
theorem dX12_small_137 : decode cX12_small 137 = .ok (.iconst 1, 1) := by decide +kernel
theorem dX12_small_138 : decode cX12_small 138 = .ok (.invokevirtual 455, 3) := by decide +kernel
theorem dX12_small_141 : decode cX12_small 141 = .ok (.iload_n 3, 1) := by decide +kernel
theorem dX12_small_142 : decode cX12_small 142 = .ok (.i2l, 1) := by decide +kernel
theorem dX12_small_143 : decode cX12_small 143 = .ok (.ldiv, 1) := by decide +kernel
theorem dX12_small_144 : decode cX12_small 144 = .ok (.lcmp, 1) := by decide +kernel
theorem dX12_small_145 : decode cX12_small 145 = .ok (.ifCond .gt 6, 3) := by decide +kernel
theorem dX12_small_148 : decode cX12_small 148 = .ok (.iload 5, 2) := by decide +kernel
theorem dX12_small_150 : decode cX12_small 150 = .ok (.ireturn, 1) := by decide +kernel
theorem dX12_small_151 : decode cX12_small 151 = .ok (.iinc 5 1, 3) := by decide +kernel
theorem dX12_small_154 : decode cX12_small 154 = .ok (.goto (-63), 3) := by decide +kernel
theorem dX12_small_157 : decode cX12_small 157 = .ok (.iconst (-1), 1) := by decide +kernel
theorem dX12_small_158 : decode cX12_small 158 = .ok (.ireturn, 1) := by decide +kernel
set_option maxRecDepth 20000 in
theorem ggX12_isWon_X12_isTrue : GoodIn wsX12_isWon wsX12_isTrue := goodIn_r _ [6, 7, 8, 9, 10, 11, 5, 12, 13, 14, 15, 16, 17, 18, 22, 23, 24, 25, 26, 27, 28, 29, 30, 31, 32, 33, 34, 35, 36, 37, 38, 39, 40, 41, 42, 43, 44, 45, 46, 47, 48, 49, 50, 51, 52, 53, 54, 55, 56, 57, 58, 59, 60, 61, 62, 63, 64, 65, 66, 67, 68, 69, 70, 71, 72, 73, 74, 75, 76, 77, 78, 79, 80] (by decide +kernel) (by decide +kernel)
set_option maxRecDepth 20000 in
theorem gX12_isWon_X12_isTrue : GoodIn wsX12_isWon (wsV RX12 208 RX12 yX12_isTrue wsX12_isTrue) := goodIn_app (goodIn_of _ (by decide +kernel)) ggX12_isWon_X12_isTrue
set_option maxRecDepth 20000 in
theorem ggX12_isWon_X12_isWon : GoodIn wsX12_isWon wsX12_isWon := goodIn_r _ [0, 1, 2, 3, 4, 5, 6, 7, 8, 9, 10, 11, 12, 13, 14, 15, 16, 17, 18, 19, 20, 21, 22, 23, 24, 25, 26, 27, 28, 29, 30, 31, 32, 33, 34, 35, 36, 37, 38, 39, 40, 41, 42, 43, 44, 45, 46, 47, 48, 49, 50, 51, 52, 53, 54, 55, 56, 57, 58, 59, 60, 61, 62, 63, 64, 65, 66, 67, 68, 69, 70, 71, 72, 73, 74, 75, 76, 77, 78, 79, 80] (by decide +kernel) (by decide +kernel)
set_option maxRecDepth 20000 in
theorem gX12_isWon_X12_isWon : GoodIn wsX12_isWon (wsV RX12 459 RX12 yX12_isWon wsX12_isWon) := goodIn_app (goodIn_of _ (by decide +kernel)) ggX12_isWon_X12_isWon
theorem dX12_isWon_0 : decode cX12_isWon 0 = .ok (.iload_n 3, 1) := by decide +kernel
theorem dX12_isWon_1 : decode cX12_isWon 1 = .ok (.aload_n 0, 1) := by decide +kernel
theorem dX12_isWon_2 : decode cX12_isWon 2 = .ok (.getfield 23, 3) := by decide +kernel
theorem dX12_isWon_5 : decode cX12_isWon 5 = .ok (.iload_n 1, 1) := by decide +kernel
theorem dX12_isWon_6 : decode cX12_isWon 6 = .ok (.iaload, 1) := by decide +kernel
theorem dX12_isWon_7 : decode cX12_isWon 7 = .ok (.if_icmp .ne 11, 3) := by decide +kernel
theorem dX12_isWon_10 : decode cX12_isWon 10 = .ok (.aload_n 0, 1) := by decide +kernel
theorem dX12_isWon_11 : decode cX12_isWon 11 = .ok (.iload_n 1, 1) := by decide +kernel
theorem dX12_isWon_12 : decode cX12_isWon 12 = .ok (.iload 4, 2) := by decide +kernel
theorem dX12_isWon_14 : decode cX12_isWon 14 = .ok (.invokevirtual 208, 3) := by decide +kernel
theorem dX12_isWon_17 : decode cX12_isWon 17 = .ok (.ireturn, 1) := by decide +kernel
theorem dX12_isWon_18 : decode cX12_isWon 18 = .ok (.aload_n 0, 1) := by decide +kernel
theorem dX12_isWon_19 : decode cX12_isWon 19 = .ok (.iload_n 1, 1) := by decide +kernel
theorem dX12_isWon_20 : decode cX12_isWon 20 = .ok (.iload_n 2, 1) := by decide +kernel
theorem dX12_isWon_21 : decode cX12_isWon 21 = .ok (.iload_n 3, 1) := by decide +kernel
theorem dX12_isWon_22 : decode cX12_isWon 22 = .ok (.iconst 1, 1) := by decide +kernel
theorem dX12_isWon_23 : decode cX12_isWon 23 = .ok (.iadd, 1) := by decide +kernel
theorem dX12_isWon_24 : decode cX12_isWon 24 = .ok (.iload 4, 2) := by decide +kernel
theorem dX12_isWon_26 : decode cX12_isWon 26 = .ok (.invokevirtual 459, 3) := by decide +kernel
theorem dX12_isWon_29 : decode cX12_isWon 29 = .ok (.istore 5, 2) := by decide +kernel
theorem dX12_isWon_31 : decode cX12_isWon 31 = .ok (.aload_n 0, 1) := by decide +kernel
theorem dX12_isWon_32 : decode cX12_isWon 32 = .ok (.iload_n 1, 1) := by decide +kernel
theorem dX12_isWon_33 : decode cX12_isWon 33 = .ok (.iload_n 2, 1) := by decide +kernel
theorem dX12_isWon_34 : decode cX12_isWon 34 = .ok (.iload_n 3, 1) := by decide +kernel
theorem dX12_isWon_35 : decode cX12_isWon 35 = .ok (.iconst 1, 1) := by decide +kernel
theorem dX12_isWon_36 : decode cX12_isWon 36 = .ok (.iadd, 1) := by decide +kernel
theorem dX12_isWon_37 : decode cX12_isWon 37 = .ok (.iload 4, 2) := by decide +kernel
theorem dX12_isWon_39 : decode cX12_isWon 39 = .ok (.iconst 1, 1) := by decide +kernel
theorem dX12_isWon_40 : decode cX12_isWon 40 = .ok (.iload_n 3, 1) := by decide +kernel
theorem dX12_isWon_41 : decode cX12_isWon 41 = .ok (.ishl, 1) := by decide +kernel
theorem dX12_isWon_42 : decode cX12_isWon 42 = .ok (.ior, 1) := by decide +kernel
theorem dX12_isWon_43 : decode cX12_isWon 43 = .ok (.invokevirtual 459, 3) := by decide +kernel
theorem dX12_isWon_46 : decode cX12_isWon 46 = .ok (.istore 6, 2) := by decide +kernel
theorem dX12_isWon_48 : decode cX12_isWon 48 = .ok (.iload_n 2, 1) := by decide +kernel
theorem dX12_isWon_49 : decode cX12_isWon 49 = .ok (.iload_n 3, 1) := by decide +kernel
theorem dX12_isWon_50 : decode cX12_isWon 50 = .ok (.ishr, 1) := by decide +kernel
theorem dX12_isWon_51 : decode cX12_isWon 51 = .ok (.iconst 1, 1) := by decide +kernel
theorem dX12_isWon_52 : decode cX12_isWon 52 = .ok (.iand, 1) := by decide +kernel
theorem dX12_isWon_53 : decode cX12_isWon 53 = .ok (.iconst 1, 1) := by decide +kernel
theorem dX12_isWon_54 : decode cX12_isWon 54 = .ok (.if_icmp .ne 21, 3) := by decide +kernel
theorem dX12_isWon_57 : decode cX12_isWon 57 = .ok (.iload 5, 2) := by decide +kernel
theorem dX12_isWon_59 : decode cX12_isWon 59 = .ok (.ifCond .eq 12, 3) := by decide +kernel
theorem dX12_isWon_62 : decode cX12_isWon 62 = .ok (.iload 6, 2) := by decide +kernel
theorem dX12_isWon_64 : decode cX12_isWon 64 = .ok (.ifCond .eq 7, 3) := by decide +kernel
theorem dX12_isWon_67 : decode cX12_isWon 67 = .ok (.iconst 1, 1) := by decide +kernel
theorem dX12_isWon_68 : decode cX12_isWon 68 = .ok (.goto 22, 3) := by decide +kernel
theorem dX12_isWon_71 : decode cX12_isWon 71 = .ok (.iconst 0, 1) := by decide +kernel
theorem dX12_isWon_72 : decode cX12_isWon 72 = .ok (.goto 18, 3) := by decide +kernel
theorem dX12_isWon_75 : decode cX12_isWon 75 = .ok (.iload 5, 2) := by decide +kernel
theorem dX12_isWon_77 : decode cX12_isWon 77 = .ok (.ifCond .ne 8, 3) := by decide +kernel
theorem dX12_isWon_80 : decode cX12_isWon 80 = .ok (.iload 6, 2) := by decide +kernel
theorem dX12_isWon_82 : decode cX12_isWon 82 = .ok (.ifCond .eq 7, 3) := by decide +kernel
theorem dX12_isWon_85 : decode cX12_isWon 85 = .ok (.iconst 1, 1) := by decide +kernel
theorem dX12_isWon_86 : decode cX12_isWon 86 = .ok (.goto 4, 3) := by decide +kernel
theorem dX12_isWon_89 : decode cX12_isWon 89 = .ok (.iconst 0, 1) := by decide +kernel
theorem dX12_isWon_90 : decode cX12_isWon 90 = .ok (.ireturn, 1) := by decide +kernel
set_option maxRecDepth 20000 in
theorem ggX12_won_X12_isSaying : GoodIn wsX12_won wsX12_isSaying := goodIn_r _ [7, 8, 33, 34, 35, 36, 37, 38, 39, 40, 41, 42, 43, 44, 45, 46, 47, 48, 49, 50, 51, 52, 53, 54, 55, 56, 57, 58, 59, 60, 61, 62, 63, 64, 65, 66, 67, 68, 69, 70, 71, 72, 73, 74, 75, 76, 77, 78, 79, 80, 81, 82, 83, 84, 85, 86, 87, 88, 89, 90, 91] (by decide +kernel) (by decide +kernel)
set_option maxRecDepth 20000 in
theorem gX12_won_X12_isSaying : GoodIn wsX12_won (wsV RX12 194 RX12 yX12_isSaying wsX12_isSaying) := goodIn_app (goodIn_of _ (by decide +kernel)) ggX12_won_X12_isSaying
set_option maxRecDepth 20000 in
theorem ggX12_won_X12_isIn : GoodIn wsX12_won wsX12_isIn := goodIn_r _ [11] (by decide +kernel) (by decide +kernel)
set_option maxRecDepth 20000 in
theorem gX12_won_X12_isIn : GoodIn wsX12_won (va_wsS RX12 199 yX12_isIn wsX12_isIn) := goodIn_app (goodIn_of _ (by decide +kernel)) ggX12_won_X12_isIn
set_option maxRecDepth 20000 in
theorem ggX12_won_X12_isWon : GoodIn wsX12_won wsX12_isWon := goodIn_r _ [15, 16, 17, 18, 19, 6, 20, 21, 22, 23, 24, 25, 26, 27, 28, 29, 30, 31, 32, 12, 13, 14, 33, 34, 35, 36, 37, 38, 39, 40, 41, 42, 43, 44, 45, 46, 47, 48, 49, 50, 51, 52, 53, 54, 55, 56, 57, 58, 59, 60, 61, 62, 63, 64, 65, 66, 67, 68, 69, 70, 71, 72, 73, 74, 75, 76, 77, 78, 79, 80, 81, 82, 83, 84, 85, 86, 87, 88, 89, 90, 91] (by decide +kernel) (by decide +kernel)
set_option maxRecDepth 20000 in
theorem gX12_won_X12_isWon : GoodIn wsX12_won (wsV RX12 459 RX12 yX12_isWon wsX12_isWon) := goodIn_app (goodIn_of _ (by decide +kernel)) ggX12_won_X12_isWon
theorem dX12_won_0 : decode cX12_won 0 = .ok (.aload_n 0, 1) := by decide +kernel
theorem dX12_won_1 : decode cX12_won 1 = .ok (.iconst 0, 1) := by decide +kernel
theorem dX12_won_2 : decode cX12_won 2 = .ok (.putfield 101, 3) := by decide +kernel
theorem dX12_won_5 : decode cX12_won 5 = .ok (.aload_n 0, 1) := by decide +kernel
theorem dX12_won_6 : decode cX12_won 6 = .ok (.iload_n 1, 1) := by decide +kernel
theorem dX12_won_7 : decode cX12_won 7 = .ok (.invokevirtual 194, 3) := by decide +kernel
theorem dX12_won_10 : decode cX12_won 10 = .ok (.ifCond .eq 15, 3) := by decide +kernel
theorem dX12_won_13 : decode cX12_won 13 = .ok (.iload_n 2, 1) := by decide +kernel
theorem dX12_won_14 : decode cX12_won 14 = .ok (.i2l, 1) := by decide +kernel
theorem dX12_won_15 : decode cX12_won 15 = .ok (.lconst 0, 1) := by decide +kernel
theorem dX12_won_16 : decode cX12_won 16 = .ok (.ldc2_w 206, 3) := by decide +kernel
theorem dX12_won_19 : decode cX12_won 19 = .ok (.invokestatic 199, 3) := by decide +kernel
theorem dX12_won_22 : decode cX12_won 22 = .ok (.ifCond .ne 7, 3) := by decide +kernel
theorem dX12_won_25 : decode cX12_won 25 = .ok (.iconst (-1), 1) := by decide +kernel
theorem dX12_won_26 : decode cX12_won 26 = .ok (.goto 19, 3) := by decide +kernel
theorem dX12_won_29 : decode cX12_won 29 = .ok (.aload_n 0, 1) := by decide +kernel
theorem dX12_won_30 : decode cX12_won 30 = .ok (.iload_n 1, 1) := by decide +kernel
theorem dX12_won_31 : decode cX12_won 31 = .ok (.iload_n 2, 1) := by decide +kernel
theorem dX12_won_32 : decode cX12_won 32 = .ok (.iconst 0, 1) := by decide +kernel
theorem dX12_won_33 : decode cX12_won 33 = .ok (.iconst 0, 1) := by decide +kernel
theorem dX12_won_34 : decode cX12_won 34 = .ok (.invokevirtual 459, 3) := by decide +kernel
theorem dX12_won_37 : decode cX12_won 37 = .ok (.ifCond .eq 7, 3) := by decide +kernel
theorem dX12_won_40 : decode cX12_won 40 = .ok (.iconst 1, 1) := by decide +kernel
theorem dX12_won_41 : decode cX12_won 41 = .ok (.goto 4, 3) := by decide +kernel
theorem dX12_won_44 : decode cX12_won 44 = .ok (.iconst 0, 1) := by decide +kernel
theorem dX12_won_45 : decode cX12_won 45 = .ok (.ireturn, 1) := by decide +kernel
set_option maxRecDepth 20000 in
theorem ggX12_folded_X12_worthAt : GoodIn wsX12_folded wsX12_worthAt := goodIn_r _ [7, 8, 9, 10, 2, 11, 12, 6, 13, 17, 18, 19, 20, 21, 22, 23, 24, 25, 26, 27, 28, 29, 30, 31, 32, 33, 34, 35, 36, 37, 38, 39, 40, 41, 42, 43, 44, 45, 46, 47, 48, 49, 50, 51, 52, 53, 54, 55, 56, 57, 58, 59, 60, 61, 62, 63, 64, 65, 66, 67, 68, 69, 70, 71, 72, 73, 74, 75] (by decide +kernel) (by decide +kernel)
set_option maxRecDepth 20000 in
theorem gX12_folded_X12_worthAt : GoodIn wsX12_folded (wsV RX12 184 RX12 yX12_worthAt wsX12_worthAt) := goodIn_app (goodIn_of _ (by decide +kernel)) ggX12_folded_X12_worthAt
set_option maxRecDepth 20000 in
theorem ggX12_folded_X12_folded : GoodIn wsX12_folded wsX12_folded := goodIn_r _ [0, 1, 2, 3, 4, 5, 6, 7, 8, 9, 10, 11, 12, 13, 14, 15, 16, 17, 18, 19, 20, 21, 22, 23, 24, 25, 26, 27, 28, 29, 30, 31, 32, 33, 34, 35, 36, 37, 38, 39, 40, 41, 42, 43, 44, 45, 46, 47, 48, 49, 50, 51, 52, 53, 54, 55, 56, 57, 58, 59, 60, 61, 62, 63, 64, 65, 66, 67, 68, 69, 70, 71, 72, 73, 74, 75] (by decide +kernel) (by decide +kernel)
set_option maxRecDepth 20000 in
theorem gX12_folded_X12_folded : GoodIn wsX12_folded (wsV RX12 462 RX12 yX12_folded wsX12_folded) := goodIn_app (goodIn_of _ (by decide +kernel)) ggX12_folded_X12_folded
set_option maxRecDepth 20000 in
theorem ggX12_folded_X12_rest : GoodIn wsX12_folded wsX12_rest := goodIn_r _ [13] (by decide +kernel) (by decide +kernel)
set_option maxRecDepth 20000 in
theorem gX12_folded_X12_rest : GoodIn wsX12_folded (va_wsS RX12 180 yX12_rest wsX12_rest) := goodIn_app (goodIn_of _ (by decide +kernel)) ggX12_folded_X12_rest
theorem dX12_folded_0 : decode cX12_folded 0 = .ok (.iload_n 3, 1) := by decide +kernel
theorem dX12_folded_1 : decode cX12_folded 1 = .ok (.aload_n 0, 1) := by decide +kernel
theorem dX12_folded_2 : decode cX12_folded 2 = .ok (.getfield 23, 3) := by decide +kernel
theorem dX12_folded_5 : decode cX12_folded 5 = .ok (.iload_n 1, 1) := by decide +kernel
theorem dX12_folded_6 : decode cX12_folded 6 = .ok (.iaload, 1) := by decide +kernel
theorem dX12_folded_7 : decode cX12_folded 7 = .ok (.if_icmp .lt 11, 3) := by decide +kernel
theorem dX12_folded_10 : decode cX12_folded 10 = .ok (.aload_n 0, 1) := by decide +kernel
theorem dX12_folded_11 : decode cX12_folded 11 = .ok (.iload_n 1, 1) := by decide +kernel
theorem dX12_folded_12 : decode cX12_folded 12 = .ok (.lload 4, 2) := by decide +kernel
theorem dX12_folded_14 : decode cX12_folded 14 = .ok (.invokevirtual 184, 3) := by decide +kernel
theorem dX12_folded_17 : decode cX12_folded 17 = .ok (.lreturn, 1) := by decide +kernel
theorem dX12_folded_18 : decode cX12_folded 18 = .ok (.aload_n 0, 1) := by decide +kernel
theorem dX12_folded_19 : decode cX12_folded 19 = .ok (.getfield 36, 3) := by decide +kernel
theorem dX12_folded_22 : decode cX12_folded 22 = .ok (.iload_n 3, 1) := by decide +kernel
theorem dX12_folded_23 : decode cX12_folded 23 = .ok (.lconst 0, 1) := by decide +kernel
theorem dX12_folded_24 : decode cX12_folded 24 = .ok (.lastore, 1) := by decide +kernel
theorem dX12_folded_25 : decode cX12_folded 25 = .ok (.aload_n 0, 1) := by decide +kernel
theorem dX12_folded_26 : decode cX12_folded 26 = .ok (.iload_n 1, 1) := by decide +kernel
theorem dX12_folded_27 : decode cX12_folded 27 = .ok (.iload_n 2, 1) := by decide +kernel
theorem dX12_folded_28 : decode cX12_folded 28 = .ok (.iload_n 3, 1) := by decide +kernel
theorem dX12_folded_29 : decode cX12_folded 29 = .ok (.iconst 1, 1) := by decide +kernel
theorem dX12_folded_30 : decode cX12_folded 30 = .ok (.iadd, 1) := by decide +kernel
theorem dX12_folded_31 : decode cX12_folded 31 = .ok (.lload 4, 2) := by decide +kernel
theorem dX12_folded_33 : decode cX12_folded 33 = .ok (.invokevirtual 462, 3) := by decide +kernel
theorem dX12_folded_36 : decode cX12_folded 36 = .ok (.lstore 6, 2) := by decide +kernel
theorem dX12_folded_38 : decode cX12_folded 38 = .ok (.aload_n 0, 1) := by decide +kernel
theorem dX12_folded_39 : decode cX12_folded 39 = .ok (.getfield 36, 3) := by decide +kernel
theorem dX12_folded_42 : decode cX12_folded 42 = .ok (.iload_n 3, 1) := by decide +kernel
theorem dX12_folded_43 : decode cX12_folded 43 = .ok (.lconst 1, 1) := by decide +kernel
theorem dX12_folded_44 : decode cX12_folded 44 = .ok (.lastore, 1) := by decide +kernel
theorem dX12_folded_45 : decode cX12_folded 45 = .ok (.aload_n 0, 1) := by decide +kernel
theorem dX12_folded_46 : decode cX12_folded 46 = .ok (.iload_n 1, 1) := by decide +kernel
theorem dX12_folded_47 : decode cX12_folded 47 = .ok (.iload_n 2, 1) := by decide +kernel
theorem dX12_folded_48 : decode cX12_folded 48 = .ok (.iload_n 3, 1) := by decide +kernel
theorem dX12_folded_49 : decode cX12_folded 49 = .ok (.iconst 1, 1) := by decide +kernel
theorem dX12_folded_50 : decode cX12_folded 50 = .ok (.iadd, 1) := by decide +kernel
theorem dX12_folded_51 : decode cX12_folded 51 = .ok (.lload 4, 2) := by decide +kernel
theorem dX12_folded_53 : decode cX12_folded 53 = .ok (.invokevirtual 462, 3) := by decide +kernel
theorem dX12_folded_56 : decode cX12_folded 56 = .ok (.lstore 8, 2) := by decide +kernel
theorem dX12_folded_58 : decode cX12_folded 58 = .ok (.lload 6, 2) := by decide +kernel
theorem dX12_folded_60 : decode cX12_folded 60 = .ok (.lload 8, 2) := by decide +kernel
theorem dX12_folded_62 : decode cX12_folded 62 = .ok (.lmul, 1) := by decide +kernel
theorem dX12_folded_63 : decode cX12_folded 63 = .ok (.lload 4, 2) := by decide +kernel
theorem dX12_folded_65 : decode cX12_folded 65 = .ok (.lrem, 1) := by decide +kernel
theorem dX12_folded_66 : decode cX12_folded 66 = .ok (.lstore 10, 2) := by decide +kernel
theorem dX12_folded_68 : decode cX12_folded 68 = .ok (.iload_n 2, 1) := by decide +kernel
theorem dX12_folded_69 : decode cX12_folded 69 = .ok (.iload_n 3, 1) := by decide +kernel
theorem dX12_folded_70 : decode cX12_folded 70 = .ok (.ishr, 1) := by decide +kernel
theorem dX12_folded_71 : decode cX12_folded 71 = .ok (.iconst 1, 1) := by decide +kernel
theorem dX12_folded_72 : decode cX12_folded 72 = .ok (.iand, 1) := by decide +kernel
theorem dX12_folded_73 : decode cX12_folded 73 = .ok (.iconst 1, 1) := by decide +kernel
theorem dX12_folded_74 : decode cX12_folded 74 = .ok (.if_icmp .ne 8, 3) := by decide +kernel
theorem dX12_folded_77 : decode cX12_folded 77 = .ok (.lload 10, 2) := by decide +kernel
theorem dX12_folded_79 : decode cX12_folded 79 = .ok (.goto 16, 3) := by decide +kernel
theorem dX12_folded_82 : decode cX12_folded 82 = .ok (.lload 6, 2) := by decide +kernel
theorem dX12_folded_84 : decode cX12_folded 84 = .ok (.lload 8, 2) := by decide +kernel
theorem dX12_folded_86 : decode cX12_folded 86 = .ok (.ladd, 1) := by decide +kernel
theorem dX12_folded_87 : decode cX12_folded 87 = .ok (.lload 10, 2) := by decide +kernel
theorem dX12_folded_89 : decode cX12_folded 89 = .ok (.lsub, 1) := by decide +kernel
theorem dX12_folded_90 : decode cX12_folded 90 = .ok (.lload 4, 2) := by decide +kernel
theorem dX12_folded_92 : decode cX12_folded 92 = .ok (.invokestatic 180, 3) := by decide +kernel
theorem dX12_folded_95 : decode cX12_folded 95 = .ok (.lreturn, 1) := by decide +kernel
set_option maxRecDepth 20000 in
theorem ggX12_game_X12_isSaying : GoodIn wsX12_game wsX12_isSaying := goodIn_r _ [8, 9, 43, 44, 45, 46, 47, 48, 49, 50, 51, 52, 53, 54, 55, 56, 57, 58, 59, 60, 61, 62, 63, 64, 65, 66, 67, 68, 69, 70, 71, 72, 73, 74, 75, 76, 77, 78, 79, 80, 81, 82, 83, 84, 85, 86, 87, 88, 89, 90, 91, 92, 93, 94, 95, 96, 97, 98, 99, 100, 101] (by decide +kernel) (by decide +kernel)
set_option maxRecDepth 20000 in
theorem gX12_game_X12_isSaying : GoodIn wsX12_game (wsV RX12 194 RX12 yX12_isSaying wsX12_isSaying) := goodIn_app (goodIn_of _ (by decide +kernel)) ggX12_game_X12_isSaying
set_option maxRecDepth 20000 in
theorem ggX12_game_X12_isIn : GoodIn wsX12_game wsX12_isIn := goodIn_r _ [12] (by decide +kernel) (by decide +kernel)
set_option maxRecDepth 20000 in
theorem gX12_game_X12_isIn : GoodIn wsX12_game (va_wsS RX12 199 yX12_isIn wsX12_isIn) := goodIn_app (goodIn_of _ (by decide +kernel)) ggX12_game_X12_isIn
set_option maxRecDepth 20000 in
theorem ggX12_game_X12_isRing : GoodIn wsX12_game wsX12_isRing := goodIn_r _ [15, 16, 17, 10, 11, 7, 12, 18, 19, 20, 21] (by decide +kernel) (by decide +kernel)
set_option maxRecDepth 20000 in
theorem gX12_game_X12_isRing : GoodIn wsX12_game (va_wsS RX12 222 yX12_isRing wsX12_isRing) := goodIn_app (goodIn_of _ (by decide +kernel)) ggX12_game_X12_isRing
set_option maxRecDepth 20000 in
theorem ggX12_game_X12_layPoint : GoodIn wsX12_game wsX12_layPoint := goodIn_r _ [25, 3, 26, 27, 43, 44, 45, 46, 47, 48, 49, 50, 51, 52, 53, 54, 55, 56, 57, 58, 59, 60, 61, 62, 63, 64, 65, 66, 67, 68, 69, 70, 71, 72, 73, 74, 75, 76, 77, 78, 79, 80, 81, 82, 83, 84, 85, 86, 87, 88, 89, 90, 91, 92, 93, 94, 95, 96, 97, 98, 99, 100, 101] (by decide +kernel) (by decide +kernel)
set_option maxRecDepth 20000 in
theorem gX12_game_X12_layPoint : GoodIn wsX12_game (wsV RX12 225 RX12 yX12_layPoint wsX12_layPoint) := goodIn_app (goodIn_of _ (by decide +kernel)) ggX12_game_X12_layPoint
set_option maxRecDepth 20000 in
theorem ggX12_game_X12_folded : GoodIn wsX12_game wsX12_folded := goodIn_r _ [31, 32, 26, 33, 34, 35, 7, 36, 37, 38, 39, 40, 41, 42, 28, 29, 30, 43, 44, 45, 46, 47, 48, 49, 50, 51, 52, 53, 54, 55, 56, 57, 58, 59, 60, 61, 62, 63, 64, 65, 66, 67, 68, 69, 70, 71, 72, 73, 74, 75, 76, 77, 78, 79, 80, 81, 82, 83, 84, 85, 86, 87, 88, 89, 90, 91, 92, 93, 94, 95, 96, 97, 98, 99, 100, 101] (by decide +kernel) (by decide +kernel)
set_option maxRecDepth 20000 in
theorem gX12_game_X12_folded : GoodIn wsX12_game (wsV RX12 462 RX12 yX12_folded wsX12_folded) := goodIn_app (goodIn_of _ (by decide +kernel)) ggX12_game_X12_folded
theorem dX12_game_0 : decode cX12_game 0 = .ok (.aload_n 0, 1) := by decide +kernel
theorem dX12_game_1 : decode cX12_game 1 = .ok (.iconst 0, 1) := by decide +kernel
theorem dX12_game_2 : decode cX12_game 2 = .ok (.putfield 101, 3) := by decide +kernel
theorem dX12_game_5 : decode cX12_game 5 = .ok (.aload_n 0, 1) := by decide +kernel
theorem dX12_game_6 : decode cX12_game 6 = .ok (.iload_n 1, 1) := by decide +kernel
theorem dX12_game_7 : decode cX12_game 7 = .ok (.invokevirtual 194, 3) := by decide +kernel
theorem dX12_game_10 : decode cX12_game 10 = .ok (.ifCond .eq 22, 3) := by decide +kernel
theorem dX12_game_13 : decode cX12_game 13 = .ok (.iload_n 2, 1) := by decide +kernel
theorem dX12_game_14 : decode cX12_game 14 = .ok (.i2l, 1) := by decide +kernel
theorem dX12_game_15 : decode cX12_game 15 = .ok (.lconst 0, 1) := by decide +kernel
theorem dX12_game_16 : decode cX12_game 16 = .ok (.ldc2_w 206, 3) := by decide +kernel
theorem dX12_game_19 : decode cX12_game 19 = .ok (.invokestatic 199, 3) := by decide +kernel
theorem dX12_game_22 : decode cX12_game 22 = .ok (.ifCond .eq 10, 3) := by decide +kernel
theorem dX12_game_25 : decode cX12_game 25 = .ok (.iload_n 3, 1) := by decide +kernel
theorem dX12_game_26 : decode cX12_game 26 = .ok (.invokestatic 222, 3) := by decide +kernel
theorem dX12_game_29 : decode cX12_game 29 = .ok (.ifCond .ne 5, 3) := by decide +kernel
theorem dX12_game_32 : decode cX12_game 32 = .ok (.iconst (-1), 1) := by decide +kernel
theorem dX12_game_33 : decode cX12_game 33 = .ok (.ireturn, 1) := by decide +kernel
theorem dX12_game_34 : decode cX12_game 34 = .ok (.aload_n 0, 1) := by decide +kernel
theorem dX12_game_35 : decode cX12_game 35 = .ok (.iload_n 3, 1) := by decide +kernel
theorem dX12_game_36 : decode cX12_game 36 = .ok (.invokevirtual 225, 3) := by decide +kernel
theorem dX12_game_39 : decode cX12_game 39 = .ok (.aload_n 0, 1) := by decide +kernel
theorem dX12_game_40 : decode cX12_game 40 = .ok (.iload_n 1, 1) := by decide +kernel
theorem dX12_game_41 : decode cX12_game 41 = .ok (.iload_n 2, 1) := by decide +kernel
theorem dX12_game_42 : decode cX12_game 42 = .ok (.aload_n 0, 1) := by decide +kernel
theorem dX12_game_43 : decode cX12_game 43 = .ok (.getfield 212, 3) := by decide +kernel
theorem dX12_game_46 : decode cX12_game 46 = .ok (.iload_n 3, 1) := by decide +kernel
theorem dX12_game_47 : decode cX12_game 47 = .ok (.i2l, 1) := by decide +kernel
theorem dX12_game_48 : decode cX12_game 48 = .ok (.invokevirtual 462, 3) := by decide +kernel
theorem dX12_game_51 : decode cX12_game 51 = .ok (.l2i, 1) := by decide +kernel
theorem dX12_game_52 : decode cX12_game 52 = .ok (.ireturn, 1) := by decide +kernel
set_option maxRecDepth 20000 in
theorem ggX12_steep_X12_isSaying : GoodIn wsX12_steep wsX12_isSaying := goodIn_r _ [12, 13, 17, 18, 19, 20, 21, 22, 23, 24, 25, 26, 27, 28, 29, 30, 31, 32, 33, 34, 35, 36, 37, 38, 39, 40, 41, 42, 43, 44, 45, 46, 47, 48, 49, 50, 51, 52, 53, 54, 55, 56, 57, 58, 59, 60, 61, 62, 63, 64, 65, 66, 67, 68, 69, 70, 71, 72, 73, 74, 75] (by decide +kernel) (by decide +kernel)
set_option maxRecDepth 20000 in
theorem gX12_steep_X12_isSaying : GoodIn wsX12_steep (wsV RX12 194 RX12 yX12_isSaying wsX12_isSaying) := goodIn_app (goodIn_of _ (by decide +kernel)) ggX12_steep_X12_isSaying
set_option maxRecDepth 20000 in
theorem ggX12_steep_X12_isIn : GoodIn wsX12_steep wsX12_isIn := goodIn_r _ [16] (by decide +kernel) (by decide +kernel)
set_option maxRecDepth 20000 in
theorem gX12_steep_X12_isIn : GoodIn wsX12_steep (va_wsS RX12 199 yX12_isIn wsX12_isIn) := goodIn_app (goodIn_of _ (by decide +kernel)) ggX12_steep_X12_isIn
theorem dX12_steep_0 : decode cX12_steep 0 = .ok (.aload_n 0, 1) := by decide +kernel
theorem dX12_steep_1 : decode cX12_steep 1 = .ok (.iconst 0, 1) := by decide +kernel
theorem dX12_steep_2 : decode cX12_steep 2 = .ok (.putfield 101, 3) := by decide +kernel
theorem dX12_steep_5 : decode cX12_steep 5 = .ok (.aload_n 0, 1) := by decide +kernel
theorem dX12_steep_6 : decode cX12_steep 6 = .ok (.iload_n 1, 1) := by decide +kernel
theorem dX12_steep_7 : decode cX12_steep 7 = .ok (.invokevirtual 194, 3) := by decide +kernel
theorem dX12_steep_10 : decode cX12_steep 10 = .ok (.ifCond .eq 37, 3) := by decide +kernel
theorem dX12_steep_13 : decode cX12_steep 13 = .ok (.iload_n 2, 1) := by decide +kernel
theorem dX12_steep_14 : decode cX12_steep 14 = .ok (.i2l, 1) := by decide +kernel
theorem dX12_steep_15 : decode cX12_steep 15 = .ok (.lconst 0, 1) := by decide +kernel
theorem dX12_steep_16 : decode cX12_steep 16 = .ok (.aload_n 0, 1) := by decide +kernel
theorem dX12_steep_17 : decode cX12_steep 17 = .ok (.getfield 23, 3) := by decide +kernel
theorem dX12_steep_20 : decode cX12_steep 20 = .ok (.iload_n 1, 1) := by decide +kernel
theorem dX12_steep_21 : decode cX12_steep 21 = .ok (.iaload, 1) := by decide +kernel
theorem dX12_steep_22 : decode cX12_steep 22 = .ok (.iconst 1, 1) := by decide +kernel
theorem dX12_steep_23 : decode cX12_steep 23 = .ok (.isub, 1) := by decide +kernel
theorem dX12_steep_24 : decode cX12_steep 24 = .ok (.i2l, 1) := by decide +kernel
theorem dX12_steep_25 : decode cX12_steep 25 = .ok (.invokestatic 199, 3) := by decide +kernel
theorem dX12_steep_28 : decode cX12_steep 28 = .ok (.ifCond .eq 19, 3) := by decide +kernel
theorem dX12_steep_31 : decode cX12_steep 31 = .ok (.iload_n 3, 1) := by decide +kernel
theorem dX12_steep_32 : decode cX12_steep 32 = .ok (.i2l, 1) := by decide +kernel
theorem dX12_steep_33 : decode cX12_steep 33 = .ok (.lconst 0, 1) := by decide +kernel
theorem dX12_steep_34 : decode cX12_steep 34 = .ok (.aload_n 0, 1) := by decide +kernel
theorem dX12_steep_35 : decode cX12_steep 35 = .ok (.getfield 23, 3) := by decide +kernel
theorem dX12_steep_38 : decode cX12_steep 38 = .ok (.iload_n 1, 1) := by decide +kernel
theorem dX12_steep_39 : decode cX12_steep 39 = .ok (.iaload, 1) := by decide +kernel
theorem dX12_steep_40 : decode cX12_steep 40 = .ok (.i2l, 1) := by decide +kernel
theorem dX12_steep_41 : decode cX12_steep 41 = .ok (.invokestatic 199, 3) := by decide +kernel
theorem dX12_steep_44 : decode cX12_steep 44 = .ok (.ifCond .ne 5, 3) := by decide +kernel
theorem dX12_steep_47 : decode cX12_steep 47 = .ok (.iconst (-1), 1) := by decide +kernel
theorem dX12_steep_48 : decode cX12_steep 48 = .ok (.ireturn, 1) := by decide +kernel
theorem dX12_steep_49 : decode cX12_steep 49 = .ok (.aload_n 0, 1) := by decide +kernel
theorem dX12_steep_50 : decode cX12_steep 50 = .ok (.getfield 26, 3) := by decide +kernel
theorem dX12_steep_53 : decode cX12_steep 53 = .ok (.bipush 6, 2) := by decide +kernel
theorem dX12_steep_55 : decode cX12_steep 55 = .ok (.iload_n 1, 1) := by decide +kernel
theorem dX12_steep_56 : decode cX12_steep 56 = .ok (.imul, 1) := by decide +kernel
theorem dX12_steep_57 : decode cX12_steep 57 = .ok (.iload_n 2, 1) := by decide +kernel
theorem dX12_steep_58 : decode cX12_steep 58 = .ok (.iadd, 1) := by decide +kernel
theorem dX12_steep_59 : decode cX12_steep 59 = .ok (.iaload, 1) := by decide +kernel
theorem dX12_steep_60 : decode cX12_steep 60 = .ok (.istore 5, 2) := by decide +kernel
theorem dX12_steep_62 : decode cX12_steep 62 = .ok (.iload_n 2, 1) := by decide +kernel
theorem dX12_steep_63 : decode cX12_steep 63 = .ok (.iconst 1, 1) := by decide +kernel
theorem dX12_steep_64 : decode cX12_steep 64 = .ok (.iadd, 1) := by decide +kernel
theorem dX12_steep_65 : decode cX12_steep 65 = .ok (.iload_n 3, 1) := by decide +kernel
theorem dX12_steep_66 : decode cX12_steep 66 = .ok (.invokestatic 145, 3) := by decide +kernel
theorem dX12_steep_69 : decode cX12_steep 69 = .ok (.istore 6, 2) := by decide +kernel
theorem dX12_steep_71 : decode cX12_steep 71 = .ok (.iload 6, 2) := by decide +kernel
theorem dX12_steep_73 : decode cX12_steep 73 = .ok (.aload_n 0, 1) := by decide +kernel
theorem dX12_steep_74 : decode cX12_steep 74 = .ok (.getfield 23, 3) := by decide +kernel
theorem dX12_steep_77 : decode cX12_steep 77 = .ok (.iload_n 1, 1) := by decide +kernel
theorem dX12_steep_78 : decode cX12_steep 78 = .ok (.iaload, 1) := by decide +kernel
theorem dX12_steep_79 : decode cX12_steep 79 = .ok (.if_icmp .ge 33, 3) := by decide +kernel
theorem dX12_steep_82 : decode cX12_steep 82 = .ok (.iload 4, 2) := by decide +kernel
theorem dX12_steep_84 : decode cX12_steep 84 = .ok (.ifCond .ne 10, 3) := by decide +kernel
theorem dX12_steep_87 : decode cX12_steep 87 = .ok (.iconst 2, 1) := by decide +kernel
theorem dX12_steep_88 : decode cX12_steep 88 = .ok (.iload 5, 2) := by decide +kernel
theorem dX12_steep_90 : decode cX12_steep 90 = .ok (.imul, 1) := by decide +kernel
theorem dX12_steep_91 : decode cX12_steep 91 = .ok (.goto 13, 3) := by decide +kernel
theorem dX12_steep_94 : decode cX12_steep 94 = .ok (.iload 5, 2) := by decide +kernel
theorem dX12_steep_96 : decode cX12_steep 96 = .ok (.ifCond .ne 7, 3) := by decide +kernel
theorem dX12_steep_99 : decode cX12_steep 99 = .ok (.iconst 0, 1) := by decide +kernel
theorem dX12_steep_100 : decode cX12_steep 100 = .ok (.goto 4, 3) := by decide +kernel
theorem dX12_steep_103 : decode cX12_steep 103 = .ok (.iconst 2, 1) := by decide +kernel
theorem dX12_steep_104 : decode cX12_steep 104 = .ok (.istore 5, 2) := by decide +kernel
theorem dX12_steep_106 : decode cX12_steep 106 = .ok (.iinc 6 1, 3) := by decide +kernel
theorem dX12_steep_109 : decode cX12_steep 109 = .ok (.goto (-38), 3) := by decide +kernel
theorem dX12_steep_112 : decode cX12_steep 112 = .ok (.iload 5, 2) := by decide +kernel
theorem dX12_steep_114 : decode cX12_steep 114 = .ok (.ireturn, 1) := by decide +kernel
theorem dX12_isNet_0 : decode cX12_isNet 0 = .ok (.iload_n 1, 1) := by decide +kernel
theorem dX12_isNet_1 : decode cX12_isNet 1 = .ok (.ifCond .lt 15, 3) := by decide +kernel
theorem dX12_isNet_4 : decode cX12_isNet 4 = .ok (.iload_n 1, 1) := by decide +kernel
theorem dX12_isNet_5 : decode cX12_isNet 5 = .ok (.aload_n 0, 1) := by decide +kernel
theorem dX12_isNet_6 : decode cX12_isNet 6 = .ok (.getfield 466, 3) := by decide +kernel
theorem dX12_isNet_9 : decode cX12_isNet 9 = .ok (.if_icmp .ge 7, 3) := by decide +kernel
theorem dX12_isNet_12 : decode cX12_isNet 12 = .ok (.iconst 1, 1) := by decide +kernel
theorem dX12_isNet_13 : decode cX12_isNet 13 = .ok (.goto 4, 3) := by decide +kernel
theorem dX12_isNet_16 : decode cX12_isNet 16 = .ok (.iconst 0, 1) := by decide +kernel
theorem dX12_isNet_17 : decode cX12_isNet 17 = .ok (.ireturn, 1) := by decide +kernel
set_option maxRecDepth 20000 in
theorem ggX12_net_X12_isIn : GoodIn wsX12_net wsX12_isIn := goodIn_r _ [10] (by decide +kernel) (by decide +kernel)
set_option maxRecDepth 20000 in
theorem gX12_net_X12_isIn : GoodIn wsX12_net (va_wsS RX12 199 yX12_isIn wsX12_isIn) := goodIn_app (goodIn_of _ (by decide +kernel)) ggX12_net_X12_isIn
theorem dX12_net_0 : decode cX12_net 0 = .ok (.aload_n 0, 1) := by decide +kernel
theorem dX12_net_1 : decode cX12_net 1 = .ok (.iconst 0, 1) := by decide +kernel
theorem dX12_net_2 : decode cX12_net 2 = .ok (.putfield 101, 3) := by decide +kernel
theorem dX12_net_5 : decode cX12_net 5 = .ok (.aload_n 0, 1) := by decide +kernel
theorem dX12_net_6 : decode cX12_net 6 = .ok (.getfield 466, 3) := by decide +kernel
theorem dX12_net_9 : decode cX12_net 9 = .ok (.bipush 12, 2) := by decide +kernel
theorem dX12_net_11 : decode cX12_net 11 = .ok (.if_icmp .eq 34, 3) := by decide +kernel
theorem dX12_net_14 : decode cX12_net 14 = .ok (.iload_n 1, 1) := by decide +kernel
theorem dX12_net_15 : decode cX12_net 15 = .ok (.i2l, 1) := by decide +kernel
theorem dX12_net_16 : decode cX12_net 16 = .ok (.ldc2_w 215, 3) := by decide +kernel
theorem dX12_net_19 : decode cX12_net 19 = .ok (.ldc2_w 469, 3) := by decide +kernel
theorem dX12_net_22 : decode cX12_net 22 = .ok (.invokestatic 199, 3) := by decide +kernel
theorem dX12_net_25 : decode cX12_net 25 = .ok (.ifCond .eq 20, 3) := by decide +kernel
theorem dX12_net_28 : decode cX12_net 28 = .ok (.iload_n 2, 1) := by decide +kernel
theorem dX12_net_29 : decode cX12_net 29 = .ok (.ifCond .lt 16, 3) := by decide +kernel
theorem dX12_net_32 : decode cX12_net 32 = .ok (.iload_n 2, 1) := by decide +kernel
theorem dX12_net_33 : decode cX12_net 33 = .ok (.iconst 1, 1) := by decide +kernel
theorem dX12_net_34 : decode cX12_net 34 = .ok (.iload_n 1, 1) := by decide +kernel
theorem dX12_net_35 : decode cX12_net 35 = .ok (.iload_n 1, 1) := by decide +kernel
theorem dX12_net_36 : decode cX12_net 36 = .ok (.iconst 1, 1) := by decide +kernel
theorem dX12_net_37 : decode cX12_net 37 = .ok (.isub, 1) := by decide +kernel
theorem dX12_net_38 : decode cX12_net 38 = .ok (.imul, 1) := by decide +kernel
theorem dX12_net_39 : decode cX12_net 39 = .ok (.iconst 2, 1) := by decide +kernel
theorem dX12_net_40 : decode cX12_net 40 = .ok (.idiv, 1) := by decide +kernel
theorem dX12_net_41 : decode cX12_net 41 = .ok (.ishl, 1) := by decide +kernel
theorem dX12_net_42 : decode cX12_net 42 = .ok (.if_icmp .lt 5, 3) := by decide +kernel
theorem dX12_net_45 : decode cX12_net 45 = .ok (.iconst (-1), 1) := by decide +kernel
theorem dX12_net_46 : decode cX12_net 46 = .ok (.ireturn, 1) := by decide +kernel
theorem dX12_net_47 : decode cX12_net 47 = .ok (.aload_n 0, 1) := by decide +kernel
theorem dX12_net_48 : decode cX12_net 48 = .ok (.getfield 89, 3) := by decide +kernel
theorem dX12_net_51 : decode cX12_net 51 = .ok (.aload_n 0, 1) := by decide +kernel
theorem dX12_net_52 : decode cX12_net 52 = .ok (.getfield 466, 3) := by decide +kernel
theorem dX12_net_55 : decode cX12_net 55 = .ok (.iload_n 1, 1) := by decide +kernel
theorem dX12_net_56 : decode cX12_net 56 = .ok (.iastore, 1) := by decide +kernel
theorem dX12_net_57 : decode cX12_net 57 = .ok (.aload_n 0, 1) := by decide +kernel
theorem dX12_net_58 : decode cX12_net 58 = .ok (.getfield 92, 3) := by decide +kernel
theorem dX12_net_61 : decode cX12_net 61 = .ok (.aload_n 0, 1) := by decide +kernel
theorem dX12_net_62 : decode cX12_net 62 = .ok (.getfield 466, 3) := by decide +kernel
theorem dX12_net_65 : decode cX12_net 65 = .ok (.iload_n 2, 1) := by decide +kernel
theorem dX12_net_66 : decode cX12_net 66 = .ok (.iastore, 1) := by decide +kernel
theorem dX12_net_67 : decode cX12_net 67 = .ok (.aload_n 0, 1) := by decide +kernel
theorem dX12_net_68 : decode cX12_net 68 = .ok (.dup, 1) := by decide +kernel
theorem dX12_net_69 : decode cX12_net 69 = .ok (.getfield 466, 3) := by decide +kernel
theorem dX12_net_72 : decode cX12_net 72 = .ok (.iconst 1, 1) := by decide +kernel
theorem dX12_net_73 : decode cX12_net 73 = .ok (.iadd, 1) := by decide +kernel
theorem dX12_net_74 : decode cX12_net 74 = .ok (.putfield 466, 3) := by decide +kernel
theorem dX12_net_77 : decode cX12_net 77 = .ok (.aload_n 0, 1) := by decide +kernel
theorem dX12_net_78 : decode cX12_net 78 = .ok (.getfield 466, 3) := by decide +kernel
theorem dX12_net_81 : decode cX12_net 81 = .ok (.iconst 1, 1) := by decide +kernel
theorem dX12_net_82 : decode cX12_net 82 = .ok (.isub, 1) := by decide +kernel
theorem dX12_net_83 : decode cX12_net 83 = .ok (.ireturn, 1) := by decide +kernel
theorem dX12_hasEdge_0 : decode cX12_hasEdge 0 = .ok (.iload_n 2, 1) := by decide +kernel
theorem dX12_hasEdge_1 : decode cX12_hasEdge 1 = .ok (.iload_n 3, 1) := by decide +kernel
theorem dX12_hasEdge_2 : decode cX12_hasEdge 2 = .ok (.invokestatic 409, 3) := by decide +kernel
theorem dX12_hasEdge_5 : decode cX12_hasEdge 5 = .ok (.istore 4, 2) := by decide +kernel
theorem dX12_hasEdge_7 : decode cX12_hasEdge 7 = .ok (.iload_n 2, 1) := by decide +kernel
theorem dX12_hasEdge_8 : decode cX12_hasEdge 8 = .ok (.iload_n 3, 1) := by decide +kernel
theorem dX12_hasEdge_9 : decode cX12_hasEdge 9 = .ok (.invokestatic 145, 3) := by decide +kernel
theorem dX12_hasEdge_12 : decode cX12_hasEdge 12 = .ok (.istore 5, 2) := by decide +kernel
theorem dX12_hasEdge_14 : decode cX12_hasEdge 14 = .ok (.aload_n 0, 1) := by decide +kernel
theorem dX12_hasEdge_15 : decode cX12_hasEdge 15 = .ok (.getfield 92, 3) := by decide +kernel
theorem dX12_hasEdge_18 : decode cX12_hasEdge 18 = .ok (.iload_n 1, 1) := by decide +kernel
theorem dX12_hasEdge_19 : decode cX12_hasEdge 19 = .ok (.iaload, 1) := by decide +kernel
theorem dX12_hasEdge_20 : decode cX12_hasEdge 20 = .ok (.iload 5, 2) := by decide +kernel
theorem dX12_hasEdge_22 : decode cX12_hasEdge 22 = .ok (.iload 5, 2) := by decide +kernel
theorem dX12_hasEdge_24 : decode cX12_hasEdge 24 = .ok (.iconst 1, 1) := by decide +kernel
theorem dX12_hasEdge_25 : decode cX12_hasEdge 25 = .ok (.isub, 1) := by decide +kernel
theorem dX12_hasEdge_26 : decode cX12_hasEdge 26 = .ok (.imul, 1) := by decide +kernel
theorem dX12_hasEdge_27 : decode cX12_hasEdge 27 = .ok (.iconst 2, 1) := by decide +kernel
theorem dX12_hasEdge_28 : decode cX12_hasEdge 28 = .ok (.idiv, 1) := by decide +kernel
theorem dX12_hasEdge_29 : decode cX12_hasEdge 29 = .ok (.iload 4, 2) := by decide +kernel
theorem dX12_hasEdge_31 : decode cX12_hasEdge 31 = .ok (.iadd, 1) := by decide +kernel
theorem dX12_hasEdge_32 : decode cX12_hasEdge 32 = .ok (.ishr, 1) := by decide +kernel
theorem dX12_hasEdge_33 : decode cX12_hasEdge 33 = .ok (.iconst 1, 1) := by decide +kernel
theorem dX12_hasEdge_34 : decode cX12_hasEdge 34 = .ok (.iand, 1) := by decide +kernel
theorem dX12_hasEdge_35 : decode cX12_hasEdge 35 = .ok (.iconst 1, 1) := by decide +kernel
theorem dX12_hasEdge_36 : decode cX12_hasEdge 36 = .ok (.if_icmp .ne 7, 3) := by decide +kernel
theorem dX12_hasEdge_39 : decode cX12_hasEdge 39 = .ok (.iconst 1, 1) := by decide +kernel
theorem dX12_hasEdge_40 : decode cX12_hasEdge 40 = .ok (.goto 4, 3) := by decide +kernel
theorem dX12_hasEdge_43 : decode cX12_hasEdge 43 = .ok (.iconst 0, 1) := by decide +kernel
theorem dX12_hasEdge_44 : decode cX12_hasEdge 44 = .ok (.ireturn, 1) := by decide +kernel
set_option maxRecDepth 20000 in
theorem ggX12_puts_X12_hasEdge : GoodIn wsX12_puts wsX12_hasEdge := goodIn_r _ [7, 8, 9, 10, 11, 12, 13, 14, 15, 19, 20, 21, 22, 23, 24, 25, 26, 27, 28, 29, 30, 31, 32, 33, 34, 35, 36, 37, 38, 39, 40, 41, 42, 43, 44, 45, 46, 47, 48, 49, 50, 51, 52, 53, 54, 55, 56, 57, 58, 59, 60, 61, 62, 63, 64, 65, 66, 67, 68, 69, 70, 71, 72, 73, 74, 75, 76, 77] (by decide +kernel) (by decide +kernel)
set_option maxRecDepth 20000 in
theorem gX12_puts_X12_hasEdge : GoodIn wsX12_puts (wsV RX12 471 RX12 yX12_hasEdge wsX12_hasEdge) := goodIn_app (goodIn_of _ (by decide +kernel)) ggX12_puts_X12_hasEdge
set_option maxRecDepth 20000 in
theorem ggX12_puts_X12_puts : GoodIn wsX12_puts wsX12_puts := goodIn_r _ [0, 1, 2, 3, 4, 5, 6, 7, 8, 9, 10, 11, 12, 13, 14, 15, 16, 17, 18, 19, 20, 21, 22, 23, 24, 25, 26, 27, 28, 29, 30, 31, 32, 33, 34, 35, 36, 37, 38, 39, 40, 41, 42, 43, 44, 45, 46, 47, 48, 49, 50, 51, 52, 53, 54, 55, 56, 57, 58, 59, 60, 61, 62, 63, 64, 65, 66, 67, 68, 69, 70, 71, 72, 73, 74, 75, 76, 77] (by decide +kernel) (by decide +kernel)
set_option maxRecDepth 20000 in
theorem gX12_puts_X12_puts : GoodIn wsX12_puts (wsV RX12 474 RX12 yX12_puts wsX12_puts) := goodIn_app (goodIn_of _ (by decide +kernel)) ggX12_puts_X12_puts
theorem dX12_puts_0 : decode cX12_puts 0 = .ok (.iload_n 3, 1) := by decide +kernel
theorem dX12_puts_1 : decode cX12_puts 1 = .ok (.aload_n 0, 1) := by decide +kernel
theorem dX12_puts_2 : decode cX12_puts 2 = .ok (.getfield 89, 3) := by decide +kernel
theorem dX12_puts_5 : decode cX12_puts 5 = .ok (.iload_n 1, 1) := by decide +kernel
theorem dX12_puts_6 : decode cX12_puts 6 = .ok (.iaload, 1) := by decide +kernel
theorem dX12_puts_7 : decode cX12_puts 7 = .ok (.if_icmp .ne 5, 3) := by decide +kernel
theorem dX12_puts_10 : decode cX12_puts 10 = .ok (.iconst 1, 1) := by decide +kernel
theorem dX12_puts_11 : decode cX12_puts 11 = .ok (.ireturn, 1) := by decide +kernel
theorem dX12_puts_12 : decode cX12_puts 12 = .ok (.iconst 0, 1) := by decide +kernel
theorem dX12_puts_13 : decode cX12_puts 13 = .ok (.istore 5, 2) := by decide +kernel
theorem dX12_puts_15 : decode cX12_puts 15 = .ok (.iload 5, 2) := by decide +kernel
theorem dX12_puts_17 : decode cX12_puts 17 = .ok (.aload_n 0, 1) := by decide +kernel
theorem dX12_puts_18 : decode cX12_puts 18 = .ok (.getfield 89, 3) := by decide +kernel
theorem dX12_puts_21 : decode cX12_puts 21 = .ok (.iload_n 1, 1) := by decide +kernel
theorem dX12_puts_22 : decode cX12_puts 22 = .ok (.iaload, 1) := by decide +kernel
theorem dX12_puts_23 : decode cX12_puts 23 = .ok (.if_icmp .ge 112, 3) := by decide +kernel
theorem dX12_puts_26 : decode cX12_puts 26 = .ok (.iload 4, 2) := by decide +kernel
theorem dX12_puts_28 : decode cX12_puts 28 = .ok (.iload 5, 2) := by decide +kernel
theorem dX12_puts_30 : decode cX12_puts 30 = .ok (.ishr, 1) := by decide +kernel
theorem dX12_puts_31 : decode cX12_puts 31 = .ok (.iconst 1, 1) := by decide +kernel
theorem dX12_puts_32 : decode cX12_puts 32 = .ok (.iand, 1) := by decide +kernel
theorem dX12_puts_33 : decode cX12_puts 33 = .ok (.ifCond .ne 7, 3) := by decide +kernel
theorem dX12_puts_36 : decode cX12_puts 36 = .ok (.iconst 1, 1) := by decide +kernel
theorem dX12_puts_37 : decode cX12_puts 37 = .ok (.goto 4, 3) := by decide +kernel
theorem dX12_puts_40 : decode cX12_puts 40 = .ok (.iconst 0, 1) := by decide +kernel
theorem dX12_puts_41 : decode cX12_puts 41 = .ok (.istore 6, 2) := by decide +kernel
theorem dX12_puts_43 : decode cX12_puts 43 = .ok (.iconst 0, 1) := by decide +kernel
theorem dX12_puts_44 : decode cX12_puts 44 = .ok (.istore 7, 2) := by decide +kernel
theorem dX12_puts_46 : decode cX12_puts 46 = .ok (.iload 7, 2) := by decide +kernel
theorem dX12_puts_48 : decode cX12_puts 48 = .ok (.iload_n 3, 1) := by decide +kernel
theorem dX12_puts_49 : decode cX12_puts 49 = .ok (.if_icmp .ge 46, 3) := by decide +kernel
theorem dX12_puts_52 : decode cX12_puts 52 = .ok (.iload 6, 2) := by decide +kernel
theorem dX12_puts_54 : decode cX12_puts 54 = .ok (.ifCond .eq 41, 3) := by decide +kernel
theorem dX12_puts_57 : decode cX12_puts 57 = .ok (.aload_n 0, 1) := by decide +kernel
theorem dX12_puts_58 : decode cX12_puts 58 = .ok (.iload_n 1, 1) := by decide +kernel
theorem dX12_puts_59 : decode cX12_puts 59 = .ok (.iload 7, 2) := by decide +kernel
theorem dX12_puts_61 : decode cX12_puts 61 = .ok (.iload_n 3, 1) := by decide +kernel
theorem dX12_puts_62 : decode cX12_puts 62 = .ok (.invokevirtual 471, 3) := by decide +kernel
theorem dX12_puts_65 : decode cX12_puts 65 = .ok (.aload_n 0, 1) := by decide +kernel
theorem dX12_puts_66 : decode cX12_puts 66 = .ok (.iload_n 2, 1) := by decide +kernel
theorem dX12_puts_67 : decode cX12_puts 67 = .ok (.aload_n 0, 1) := by decide +kernel
theorem dX12_puts_68 : decode cX12_puts 68 = .ok (.getfield 95, 3) := by decide +kernel
theorem dX12_puts_71 : decode cX12_puts 71 = .ok (.iload 7, 2) := by decide +kernel
theorem dX12_puts_73 : decode cX12_puts 73 = .ok (.iaload, 1) := by decide +kernel
theorem dX12_puts_74 : decode cX12_puts 74 = .ok (.iload 5, 2) := by decide +kernel
theorem dX12_puts_76 : decode cX12_puts 76 = .ok (.invokevirtual 471, 3) := by decide +kernel
theorem dX12_puts_79 : decode cX12_puts 79 = .ok (.if_icmp .ne 7, 3) := by decide +kernel
theorem dX12_puts_82 : decode cX12_puts 82 = .ok (.iconst 1, 1) := by decide +kernel
theorem dX12_puts_83 : decode cX12_puts 83 = .ok (.goto 4, 3) := by decide +kernel
theorem dX12_puts_86 : decode cX12_puts 86 = .ok (.iconst 0, 1) := by decide +kernel
theorem dX12_puts_87 : decode cX12_puts 87 = .ok (.istore 6, 2) := by decide +kernel
theorem dX12_puts_89 : decode cX12_puts 89 = .ok (.iinc 7 1, 3) := by decide +kernel
theorem dX12_puts_92 : decode cX12_puts 92 = .ok (.goto (-46), 3) := by decide +kernel
theorem dX12_puts_95 : decode cX12_puts 95 = .ok (.aload_n 0, 1) := by decide +kernel
theorem dX12_puts_96 : decode cX12_puts 96 = .ok (.getfield 95, 3) := by decide +kernel
theorem dX12_puts_99 : decode cX12_puts 99 = .ok (.iload_n 3, 1) := by decide +kernel
theorem dX12_puts_100 : decode cX12_puts 100 = .ok (.iload 5, 2) := by decide +kernel
theorem dX12_puts_102 : decode cX12_puts 102 = .ok (.iastore, 1) := by decide +kernel
theorem dX12_puts_103 : decode cX12_puts 103 = .ok (.iload 6, 2) := by decide +kernel
theorem dX12_puts_105 : decode cX12_puts 105 = .ok (.ifCond .eq 24, 3) := by decide +kernel
theorem dX12_puts_108 : decode cX12_puts 108 = .ok (.aload_n 0, 1) := by decide +kernel
theorem dX12_puts_109 : decode cX12_puts 109 = .ok (.iload_n 1, 1) := by decide +kernel
theorem dX12_puts_110 : decode cX12_puts 110 = .ok (.iload_n 2, 1) := by decide +kernel
theorem dX12_puts_111 : decode cX12_puts 111 = .ok (.iload_n 3, 1) := by decide +kernel
theorem dX12_puts_112 : decode cX12_puts 112 = .ok (.iconst 1, 1) := by decide +kernel
theorem dX12_puts_113 : decode cX12_puts 113 = .ok (.iadd, 1) := by decide +kernel
theorem dX12_puts_114 : decode cX12_puts 114 = .ok (.iload 4, 2) := by decide +kernel
theorem dX12_puts_116 : decode cX12_puts 116 = .ok (.iconst 1, 1) := by decide +kernel
theorem dX12_puts_117 : decode cX12_puts 117 = .ok (.iload 5, 2) := by decide +kernel
theorem dX12_puts_119 : decode cX12_puts 119 = .ok (.ishl, 1) := by decide +kernel
theorem dX12_puts_120 : decode cX12_puts 120 = .ok (.ior, 1) := by decide +kernel
theorem dX12_puts_121 : decode cX12_puts 121 = .ok (.invokevirtual 474, 3) := by decide +kernel
theorem dX12_puts_124 : decode cX12_puts 124 = .ok (.ifCond .eq 5, 3) := by decide +kernel
theorem dX12_puts_127 : decode cX12_puts 127 = .ok (.iconst 1, 1) := by decide +kernel
theorem dX12_puts_128 : decode cX12_puts 128 = .ok (.ireturn, 1) := by decide +kernel
theorem dX12_puts_129 : decode cX12_puts 129 = .ok (.iinc 5 1, 3) := by decide +kernel
theorem dX12_puts_132 : decode cX12_puts 132 = .ok (.goto (-117), 3) := by decide +kernel
theorem dX12_puts_135 : decode cX12_puts 135 = .ok (.iconst 0, 1) := by decide +kernel
theorem dX12_puts_136 : decode cX12_puts 136 = .ok (.ireturn, 1) := by decide +kernel
set_option maxRecDepth 20000 in
theorem ggX12_areAlike_X12_puts : GoodIn wsX12_areAlike wsX12_puts := goodIn_r _ [6, 1, 7, 8, 9, 10, 5, 11, 12, 13, 14, 15, 16, 17, 18, 19, 2, 3, 4, 20, 21, 22, 23, 24, 25, 26, 27, 28, 29, 30, 31, 32, 33, 34, 35, 36, 37, 38, 39, 40, 41, 42, 43, 44, 45, 46, 47, 48, 49, 50, 51, 52, 53, 54, 55, 56, 57, 58, 59, 60, 61, 62, 63, 64, 65, 66, 67, 68, 69, 70, 71, 72, 73, 74, 75, 76, 77, 78] (by decide +kernel) (by decide +kernel)
set_option maxRecDepth 20000 in
theorem gX12_areAlike_X12_puts : GoodIn wsX12_areAlike (wsV RX12 474 RX12 yX12_puts wsX12_puts) := goodIn_app (goodIn_of _ (by decide +kernel)) ggX12_areAlike_X12_puts
theorem dX12_areAlike_0 : decode cX12_areAlike 0 = .ok (.aload_n 0, 1) := by decide +kernel
theorem dX12_areAlike_1 : decode cX12_areAlike 1 = .ok (.getfield 89, 3) := by decide +kernel
theorem dX12_areAlike_4 : decode cX12_areAlike 4 = .ok (.iload_n 1, 1) := by decide +kernel
theorem dX12_areAlike_5 : decode cX12_areAlike 5 = .ok (.iaload, 1) := by decide +kernel
theorem dX12_areAlike_6 : decode cX12_areAlike 6 = .ok (.aload_n 0, 1) := by decide +kernel
theorem dX12_areAlike_7 : decode cX12_areAlike 7 = .ok (.getfield 89, 3) := by decide +kernel
theorem dX12_areAlike_10 : decode cX12_areAlike 10 = .ok (.iload_n 2, 1) := by decide +kernel
theorem dX12_areAlike_11 : decode cX12_areAlike 11 = .ok (.iaload, 1) := by decide +kernel
theorem dX12_areAlike_12 : decode cX12_areAlike 12 = .ok (.if_icmp .ne 18, 3) := by decide +kernel
theorem dX12_areAlike_15 : decode cX12_areAlike 15 = .ok (.aload_n 0, 1) := by decide +kernel
theorem dX12_areAlike_16 : decode cX12_areAlike 16 = .ok (.iload_n 1, 1) := by decide +kernel
theorem dX12_areAlike_17 : decode cX12_areAlike 17 = .ok (.iload_n 2, 1) := by decide +kernel
theorem dX12_areAlike_18 : decode cX12_areAlike 18 = .ok (.iconst 0, 1) := by decide +kernel
theorem dX12_areAlike_19 : decode cX12_areAlike 19 = .ok (.iconst 0, 1) := by decide +kernel
theorem dX12_areAlike_20 : decode cX12_areAlike 20 = .ok (.invokevirtual 474, 3) := by decide +kernel
theorem dX12_areAlike_23 : decode cX12_areAlike 23 = .ok (.ifCond .eq 7, 3) := by decide +kernel
theorem dX12_areAlike_26 : decode cX12_areAlike 26 = .ok (.iconst 1, 1) := by decide +kernel
theorem dX12_areAlike_27 : decode cX12_areAlike 27 = .ok (.goto 4, 3) := by decide +kernel
theorem dX12_areAlike_30 : decode cX12_areAlike 30 = .ok (.iconst 0, 1) := by decide +kernel
theorem dX12_areAlike_31 : decode cX12_areAlike 31 = .ok (.ireturn, 1) := by decide +kernel
set_option maxRecDepth 20000 in
theorem ggX12_alike_X12_isNet : GoodIn wsX12_alike wsX12_isNet := goodIn_r _ [6, 7, 30, 31, 32, 33, 34, 35, 36, 37, 38, 39, 40, 41, 42, 43, 44, 45, 46, 47, 48, 49, 50, 51, 52, 53, 54, 55, 56, 57, 58, 59, 60, 61, 62, 63, 64, 65, 66, 67, 68, 69, 70, 71, 72, 73, 74, 75, 76, 77, 78, 79, 80, 81, 82, 83, 84, 85, 86, 87, 88] (by decide +kernel) (by decide +kernel)
set_option maxRecDepth 20000 in
theorem gX12_alike_X12_isNet : GoodIn wsX12_alike (wsV RX12 477 RX12 yX12_isNet wsX12_isNet) := goodIn_app (goodIn_of _ (by decide +kernel)) ggX12_alike_X12_isNet
set_option maxRecDepth 20000 in
theorem ggX12_alike_X12_areAlike : GoodIn wsX12_alike wsX12_areAlike := goodIn_r _ [11, 12, 13, 14, 15, 5, 16, 17, 18, 19, 20, 21, 22, 23, 24, 25, 26, 27, 28, 29, 30, 31, 32, 33, 34, 35, 36, 37, 38, 39, 40, 41, 42, 43, 44, 45, 46, 47, 48, 49, 50, 51, 52, 53, 54, 55, 56, 57, 58, 59, 60, 61, 62, 63, 64, 65, 66, 67, 68, 69, 70, 71, 72, 73, 74, 75, 76, 77, 78, 79, 80, 81, 82, 83, 84, 85, 86, 87, 88] (by decide +kernel) (by decide +kernel)
set_option maxRecDepth 20000 in
theorem gX12_alike_X12_areAlike : GoodIn wsX12_alike (wsV RX12 480 RX12 yX12_areAlike wsX12_areAlike) := goodIn_app (goodIn_of _ (by decide +kernel)) ggX12_alike_X12_areAlike
theorem dX12_alike_0 : decode cX12_alike 0 = .ok (.aload_n 0, 1) := by decide +kernel
theorem dX12_alike_1 : decode cX12_alike 1 = .ok (.iconst 0, 1) := by decide +kernel
theorem dX12_alike_2 : decode cX12_alike 2 = .ok (.putfield 101, 3) := by decide +kernel
theorem dX12_alike_5 : decode cX12_alike 5 = .ok (.aload_n 0, 1) := by decide +kernel
theorem dX12_alike_6 : decode cX12_alike 6 = .ok (.iload_n 1, 1) := by decide +kernel
theorem dX12_alike_7 : decode cX12_alike 7 = .ok (.invokevirtual 477, 3) := by decide +kernel
theorem dX12_alike_10 : decode cX12_alike 10 = .ok (.ifCond .eq 11, 3) := by decide +kernel
theorem dX12_alike_13 : decode cX12_alike 13 = .ok (.aload_n 0, 1) := by decide +kernel
theorem dX12_alike_14 : decode cX12_alike 14 = .ok (.iload_n 2, 1) := by decide +kernel
theorem dX12_alike_15 : decode cX12_alike 15 = .ok (.invokevirtual 477, 3) := by decide +kernel
theorem dX12_alike_18 : decode cX12_alike 18 = .ok (.ifCond .ne 7, 3) := by decide +kernel
theorem dX12_alike_21 : decode cX12_alike 21 = .ok (.iconst (-1), 1) := by decide +kernel
theorem dX12_alike_22 : decode cX12_alike 22 = .ok (.goto 17, 3) := by decide +kernel
theorem dX12_alike_25 : decode cX12_alike 25 = .ok (.aload_n 0, 1) := by decide +kernel
theorem dX12_alike_26 : decode cX12_alike 26 = .ok (.iload_n 1, 1) := by decide +kernel
theorem dX12_alike_27 : decode cX12_alike 27 = .ok (.iload_n 2, 1) := by decide +kernel
theorem dX12_alike_28 : decode cX12_alike 28 = .ok (.invokevirtual 480, 3) := by decide +kernel
theorem dX12_alike_31 : decode cX12_alike 31 = .ok (.ifCond .eq 7, 3) := by decide +kernel
theorem dX12_alike_34 : decode cX12_alike 34 = .ok (.iconst 1, 1) := by decide +kernel
theorem dX12_alike_35 : decode cX12_alike 35 = .ok (.goto 4, 3) := by decide +kernel
theorem dX12_alike_38 : decode cX12_alike 38 = .ok (.iconst 0, 1) := by decide +kernel
theorem dX12_alike_39 : decode cX12_alike 39 = .ok (.ireturn, 1) := by decide +kernel
set_option maxRecDepth 20000 in
theorem ggX12_shuffle_X12_isNet : GoodIn wsX12_shuffle wsX12_isNet := goodIn_r _ [8, 9, 33, 34, 35, 36, 37, 38, 39, 40, 41, 42, 43, 44, 45, 46, 47, 48, 49, 50, 51, 52, 53, 54, 55, 56, 57, 58, 59, 60, 61, 62, 63, 64, 65, 66, 67, 68, 69, 70, 71, 72, 73, 74, 75, 76, 77, 78, 79, 80, 81, 82, 83, 84, 85, 86, 87, 88, 89, 90, 91] (by decide +kernel) (by decide +kernel)
set_option maxRecDepth 20000 in
theorem gX12_shuffle_X12_isNet : GoodIn wsX12_shuffle (wsV RX12 477 RX12 yX12_isNet wsX12_isNet) := goodIn_app (goodIn_of _ (by decide +kernel)) ggX12_shuffle_X12_isNet
set_option maxRecDepth 20000 in
theorem ggX12_shuffle_X12_isIn : GoodIn wsX12_shuffle wsX12_isIn := goodIn_r _ [12] (by decide +kernel) (by decide +kernel)
set_option maxRecDepth 20000 in
theorem gX12_shuffle_X12_isIn : GoodIn wsX12_shuffle (va_wsS RX12 199 yX12_isIn wsX12_isIn) := goodIn_app (goodIn_of _ (by decide +kernel)) ggX12_shuffle_X12_isIn
set_option maxRecDepth 20000 in
theorem ggX12_shuffle_X12_areAlike : GoodIn wsX12_shuffle wsX12_areAlike := goodIn_r _ [16, 2, 17, 18, 19, 7, 20, 3, 21, 22, 23, 24, 25, 26, 27, 28, 29, 30, 31, 32, 33, 34, 35, 36, 37, 38, 39, 40, 41, 42, 43, 44, 45, 46, 47, 48, 49, 50, 51, 52, 53, 54, 55, 56, 57, 58, 59, 60, 61, 62, 63, 64, 65, 66, 67, 68, 69, 70, 71, 72, 73, 74, 75, 76, 77, 78, 79, 80, 81, 82, 83, 84, 85, 86, 87, 88, 89, 90, 91] (by decide +kernel) (by decide +kernel)
set_option maxRecDepth 20000 in
theorem gX12_shuffle_X12_areAlike : GoodIn wsX12_shuffle (wsV RX12 480 RX12 yX12_areAlike wsX12_areAlike) := goodIn_app (goodIn_of _ (by decide +kernel)) ggX12_shuffle_X12_areAlike
theorem dX12_shuffle_0 : decode cX12_shuffle 0 = .ok (.aload_n 0, 1) := by decide +kernel
theorem dX12_shuffle_1 : decode cX12_shuffle 1 = .ok (.iconst 0, 1) := by decide +kernel
theorem dX12_shuffle_2 : decode cX12_shuffle 2 = .ok (.putfield 101, 3) := by decide +kernel
theorem dX12_shuffle_5 : decode cX12_shuffle 5 = .ok (.aload_n 0, 1) := by decide +kernel
theorem dX12_shuffle_6 : decode cX12_shuffle 6 = .ok (.iload_n 1, 1) := by decide +kernel
theorem dX12_shuffle_7 : decode cX12_shuffle 7 = .ok (.invokevirtual 477, 3) := by decide +kernel
theorem dX12_shuffle_10 : decode cX12_shuffle 10 = .ok (.ifCond .eq 38, 3) := by decide +kernel
theorem dX12_shuffle_13 : decode cX12_shuffle 13 = .ok (.aload_n 0, 1) := by decide +kernel
theorem dX12_shuffle_14 : decode cX12_shuffle 14 = .ok (.iload_n 2, 1) := by decide +kernel
theorem dX12_shuffle_15 : decode cX12_shuffle 15 = .ok (.invokevirtual 477, 3) := by decide +kernel
theorem dX12_shuffle_18 : decode cX12_shuffle 18 = .ok (.ifCond .eq 30, 3) := by decide +kernel
theorem dX12_shuffle_21 : decode cX12_shuffle 21 = .ok (.iload_n 3, 1) := by decide +kernel
theorem dX12_shuffle_22 : decode cX12_shuffle 22 = .ok (.i2l, 1) := by decide +kernel
theorem dX12_shuffle_23 : decode cX12_shuffle 23 = .ok (.lconst 0, 1) := by decide +kernel
theorem dX12_shuffle_24 : decode cX12_shuffle 24 = .ok (.aload_n 0, 1) := by decide +kernel
theorem dX12_shuffle_25 : decode cX12_shuffle 25 = .ok (.getfield 89, 3) := by decide +kernel
theorem dX12_shuffle_28 : decode cX12_shuffle 28 = .ok (.iload_n 1, 1) := by decide +kernel
theorem dX12_shuffle_29 : decode cX12_shuffle 29 = .ok (.iaload, 1) := by decide +kernel
theorem dX12_shuffle_30 : decode cX12_shuffle 30 = .ok (.iconst 1, 1) := by decide +kernel
theorem dX12_shuffle_31 : decode cX12_shuffle 31 = .ok (.isub, 1) := by decide +kernel
theorem dX12_shuffle_32 : decode cX12_shuffle 32 = .ok (.i2l, 1) := by decide +kernel
theorem dX12_shuffle_33 : decode cX12_shuffle 33 = .ok (.invokestatic 199, 3) := by decide +kernel
theorem dX12_shuffle_36 : decode cX12_shuffle 36 = .ok (.ifCond .eq 12, 3) := by decide +kernel
theorem dX12_shuffle_39 : decode cX12_shuffle 39 = .ok (.aload_n 0, 1) := by decide +kernel
theorem dX12_shuffle_40 : decode cX12_shuffle 40 = .ok (.iload_n 1, 1) := by decide +kernel
theorem dX12_shuffle_41 : decode cX12_shuffle 41 = .ok (.iload_n 2, 1) := by decide +kernel
theorem dX12_shuffle_42 : decode cX12_shuffle 42 = .ok (.invokevirtual 480, 3) := by decide +kernel
theorem dX12_shuffle_45 : decode cX12_shuffle 45 = .ok (.ifCond .ne 5, 3) := by decide +kernel
theorem dX12_shuffle_48 : decode cX12_shuffle 48 = .ok (.iconst (-1), 1) := by decide +kernel
theorem dX12_shuffle_49 : decode cX12_shuffle 49 = .ok (.ireturn, 1) := by decide +kernel
theorem dX12_shuffle_50 : decode cX12_shuffle 50 = .ok (.aload_n 0, 1) := by decide +kernel
theorem dX12_shuffle_51 : decode cX12_shuffle 51 = .ok (.getfield 95, 3) := by decide +kernel
theorem dX12_shuffle_54 : decode cX12_shuffle 54 = .ok (.iload_n 3, 1) := by decide +kernel
theorem dX12_shuffle_55 : decode cX12_shuffle 55 = .ok (.iaload, 1) := by decide +kernel
theorem dX12_shuffle_56 : decode cX12_shuffle 56 = .ok (.ireturn, 1) := by decide +kernel
set_option maxRecDepth 20000 in
theorem ggX12_unlike_X12_isNet : GoodIn wsX12_unlike wsX12_isNet := goodIn_r _ [15, 16, 37, 38, 39, 40, 41, 42, 43, 44, 45, 46, 47, 48, 49, 50, 51, 52, 53, 54, 55, 56, 57, 58, 59, 60, 61, 62, 63, 64, 65, 66, 67, 68, 69, 70, 71, 72, 73, 74, 75, 76, 77, 78, 79, 80, 81, 82, 83, 84, 85, 86, 87, 88, 89, 90, 91, 92, 93, 94, 95] (by decide +kernel) (by decide +kernel)
set_option maxRecDepth 20000 in
theorem gX12_unlike_X12_isNet : GoodIn wsX12_unlike (wsV RX12 477 RX12 yX12_isNet wsX12_isNet) := goodIn_app (goodIn_of _ (by decide +kernel)) ggX12_unlike_X12_isNet
set_option maxRecDepth 20000 in
theorem ggX12_unlike_X12_isIn : GoodIn wsX12_unlike wsX12_isIn := goodIn_r _ [19] (by decide +kernel) (by decide +kernel)
set_option maxRecDepth 20000 in
theorem gX12_unlike_X12_isIn : GoodIn wsX12_unlike (va_wsS RX12 199 yX12_isIn wsX12_isIn) := goodIn_app (goodIn_of _ (by decide +kernel)) ggX12_unlike_X12_isIn
set_option maxRecDepth 20000 in
theorem ggX12_unlike_X12_areAlike : GoodIn wsX12_unlike wsX12_areAlike := goodIn_r _ [23, 2, 24, 25, 26, 14, 27, 28, 29, 30, 31, 32, 7, 8, 9, 10, 33, 34, 35, 36, 37, 38, 39, 40, 41, 42, 43, 44, 45, 46, 47, 48, 49, 50, 51, 52, 53, 54, 55, 56, 57, 58, 59, 60, 61, 62, 63, 64, 65, 66, 67, 68, 69, 70, 71, 72, 73, 74, 75, 76, 77, 78, 79, 80, 81, 82, 83, 84, 85, 86, 87, 88, 89, 90, 91, 92, 93, 94, 95] (by decide +kernel) (by decide +kernel)
set_option maxRecDepth 20000 in
theorem gX12_unlike_X12_areAlike : GoodIn wsX12_unlike (wsV RX12 480 RX12 yX12_areAlike wsX12_areAlike) := goodIn_app (goodIn_of _ (by decide +kernel)) ggX12_unlike_X12_areAlike
theorem dX12_unlike_0 : decode cX12_unlike 0 = .ok (.aload_n 0, 1) := by decide +kernel
theorem dX12_unlike_1 : decode cX12_unlike 1 = .ok (.iconst 0, 1) := by decide +kernel
theorem dX12_unlike_2 : decode cX12_unlike 2 = .ok (.putfield 101, 3) := by decide +kernel
theorem dX12_unlike_5 : decode cX12_unlike 5 = .ok (.aload_n 0, 1) := by decide +kernel
theorem dX12_unlike_6 : decode cX12_unlike 6 = .ok (.iload_n 1, 1) := by decide +kernel
theorem dX12_unlike_7 : decode cX12_unlike 7 = .ok (.invokevirtual 477, 3) := by decide +kernel
theorem dX12_unlike_10 : decode cX12_unlike 10 = .ok (.ifCond .eq 44, 3) := by decide +kernel
theorem dX12_unlike_13 : decode cX12_unlike 13 = .ok (.aload_n 0, 1) := by decide +kernel
theorem dX12_unlike_14 : decode cX12_unlike 14 = .ok (.iload_n 2, 1) := by decide +kernel
theorem dX12_unlike_15 : decode cX12_unlike 15 = .ok (.invokevirtual 477, 3) := by decide +kernel
theorem dX12_unlike_18 : decode cX12_unlike 18 = .ok (.ifCond .eq 36, 3) := by decide +kernel
theorem dX12_unlike_21 : decode cX12_unlike 21 = .ok (.iload_n 1, 1) := by decide +kernel
theorem dX12_unlike_22 : decode cX12_unlike 22 = .ok (.iload_n 2, 1) := by decide +kernel
theorem dX12_unlike_23 : decode cX12_unlike 23 = .ok (.if_icmp .eq 31, 3) := by decide +kernel
theorem dX12_unlike_26 : decode cX12_unlike 26 = .ok (.aload_n 0, 1) := by decide +kernel
theorem dX12_unlike_27 : decode cX12_unlike 27 = .ok (.getfield 89, 3) := by decide +kernel
theorem dX12_unlike_30 : decode cX12_unlike 30 = .ok (.iload_n 1, 1) := by decide +kernel
theorem dX12_unlike_31 : decode cX12_unlike 31 = .ok (.iaload, 1) := by decide +kernel
theorem dX12_unlike_32 : decode cX12_unlike 32 = .ok (.aload_n 0, 1) := by decide +kernel
theorem dX12_unlike_33 : decode cX12_unlike 33 = .ok (.getfield 89, 3) := by decide +kernel
theorem dX12_unlike_36 : decode cX12_unlike 36 = .ok (.iload_n 2, 1) := by decide +kernel
theorem dX12_unlike_37 : decode cX12_unlike 37 = .ok (.iaload, 1) := by decide +kernel
theorem dX12_unlike_38 : decode cX12_unlike 38 = .ok (.if_icmp .ne 16, 3) := by decide +kernel
theorem dX12_unlike_41 : decode cX12_unlike 41 = .ok (.iload 5, 2) := by decide +kernel
theorem dX12_unlike_43 : decode cX12_unlike 43 = .ok (.i2l, 1) := by decide +kernel
theorem dX12_unlike_44 : decode cX12_unlike 44 = .ok (.lconst 1, 1) := by decide +kernel
theorem dX12_unlike_45 : decode cX12_unlike 45 = .ok (.ldc2_w 483, 3) := by decide +kernel
theorem dX12_unlike_48 : decode cX12_unlike 48 = .ok (.invokestatic 199, 3) := by decide +kernel
theorem dX12_unlike_51 : decode cX12_unlike 51 = .ok (.ifCond .ne 5, 3) := by decide +kernel
theorem dX12_unlike_54 : decode cX12_unlike 54 = .ok (.iconst (-1), 1) := by decide +kernel
theorem dX12_unlike_55 : decode cX12_unlike 55 = .ok (.ireturn, 1) := by decide +kernel
theorem dX12_unlike_56 : decode cX12_unlike 56 = .ok (.aload_n 0, 1) := by decide +kernel
theorem dX12_unlike_57 : decode cX12_unlike 57 = .ok (.iload_n 1, 1) := by decide +kernel
theorem dX12_unlike_58 : decode cX12_unlike 58 = .ok (.iload_n 2, 1) := by decide +kernel
theorem dX12_unlike_59 : decode cX12_unlike 59 = .ok (.invokevirtual 480, 3) := by decide +kernel
theorem dX12_unlike_62 : decode cX12_unlike 62 = .ok (.istore 6, 2) := by decide +kernel
theorem dX12_unlike_64 : decode cX12_unlike 64 = .ok (.lload_n 3, 1) := by decide +kernel
theorem dX12_unlike_65 : decode cX12_unlike 65 = .ok (.lstore 7, 2) := by decide +kernel
theorem dX12_unlike_67 : decode cX12_unlike 67 = .ok (.iconst 0, 1) := by decide +kernel
theorem dX12_unlike_68 : decode cX12_unlike 68 = .ok (.istore 9, 2) := by decide +kernel
theorem dX12_unlike_70 : decode cX12_unlike 70 = .ok (.iconst 0, 1) := by decide +kernel
theorem dX12_unlike_71 : decode cX12_unlike 71 = .ok (.istore 10, 2) := by decide +kernel
theorem dX12_unlike_73 : decode cX12_unlike 73 = .ok (.iload 10, 2) := by decide +kernel
theorem dX12_unlike_75 : decode cX12_unlike 75 = .ok (.iload 5, 2) := by decide +kernel
theorem dX12_unlike_77 : decode cX12_unlike 77 = .ok (.if_icmp .ge 67, 3) := by decide +kernel
theorem dX12_unlike_80 : decode cX12_unlike 80 = .ok (.lload 7, 2) := by decide +kernel
theorem dX12_unlike_82 : decode cX12_unlike 82 = .ok (.ldc2_w 344, 3) := by decide +kernel
theorem dX12_unlike_85 : decode cX12_unlike 85 = .ok (.lmul, 1) := by decide +kernel
theorem dX12_unlike_86 : decode cX12_unlike 86 = .ok (.ldc2_w 346, 3) := by decide +kernel
theorem dX12_unlike_89 : decode cX12_unlike 89 = .ok (.ladd, 1) := by decide +kernel
theorem dX12_unlike_90 : decode cX12_unlike 90 = .ok (.lstore 7, 2) := by decide +kernel
theorem dX12_unlike_92 : decode cX12_unlike 92 = .ok (.lload 7, 2) := by decide +kernel
theorem dX12_unlike_94 : decode cX12_unlike 94 = .ok (.bipush 33, 2) := by decide +kernel
theorem dX12_unlike_96 : decode cX12_unlike 96 = .ok (.lushr, 1) := by decide +kernel
theorem dX12_unlike_97 : decode cX12_unlike 97 = .ok (.ldc2_w 215, 3) := by decide +kernel
theorem dX12_unlike_100 : decode cX12_unlike 100 = .ok (.lrem, 1) := by decide +kernel
theorem dX12_unlike_101 : decode cX12_unlike 101 = .ok (.lconst 0, 1) := by decide +kernel
theorem dX12_unlike_102 : decode cX12_unlike 102 = .ok (.lcmp, 1) := by decide +kernel
theorem dX12_unlike_103 : decode cX12_unlike 103 = .ok (.ifCond .ne 7, 3) := by decide +kernel
theorem dX12_unlike_106 : decode cX12_unlike 106 = .ok (.iload_n 1, 1) := by decide +kernel
theorem dX12_unlike_107 : decode cX12_unlike 107 = .ok (.goto 4, 3) := by decide +kernel
theorem dX12_unlike_110 : decode cX12_unlike 110 = .ok (.iload_n 2, 1) := by decide +kernel
theorem dX12_unlike_111 : decode cX12_unlike 111 = .ok (.istore 11, 2) := by decide +kernel
theorem dX12_unlike_113 : decode cX12_unlike 113 = .ok (.iload 9, 2) := by decide +kernel
theorem dX12_unlike_115 : decode cX12_unlike 115 = .ok (.iload 6, 2) := by decide +kernel
theorem dX12_unlike_117 : decode cX12_unlike 117 = .ok (.ifCond .eq 13, 3) := by decide +kernel
theorem dX12_unlike_120 : decode cX12_unlike 120 = .ok (.iload 11, 2) := by decide +kernel
theorem dX12_unlike_122 : decode cX12_unlike 122 = .ok (.iload_n 1, 1) := by decide +kernel
theorem dX12_unlike_123 : decode cX12_unlike 123 = .ok (.iload_n 2, 1) := by decide +kernel
theorem dX12_unlike_124 : decode cX12_unlike 124 = .ok (.invokestatic 409, 3) := by decide +kernel
theorem dX12_unlike_127 : decode cX12_unlike 127 = .ok (.if_icmp .ne 7, 3) := by decide +kernel
theorem dX12_unlike_130 : decode cX12_unlike 130 = .ok (.iconst 1, 1) := by decide +kernel
theorem dX12_unlike_131 : decode cX12_unlike 131 = .ok (.goto 4, 3) := by decide +kernel
theorem dX12_unlike_134 : decode cX12_unlike 134 = .ok (.iconst 0, 1) := by decide +kernel
theorem dX12_unlike_135 : decode cX12_unlike 135 = .ok (.iadd, 1) := by decide +kernel
theorem dX12_unlike_136 : decode cX12_unlike 136 = .ok (.istore 9, 2) := by decide +kernel
theorem dX12_unlike_138 : decode cX12_unlike 138 = .ok (.iinc 10 1, 3) := by decide +kernel
theorem dX12_unlike_141 : decode cX12_unlike 141 = .ok (.goto (-68), 3) := by decide +kernel
theorem dX12_unlike_144 : decode cX12_unlike 144 = .ok (.iload 9, 2) := by decide +kernel
theorem dX12_unlike_146 : decode cX12_unlike 146 = .ok (.ireturn, 1) := by decide +kernel
theorem dX12_agrees_0 : decode cX12_agrees 0 = .ok (.lload_n 0, 1) := by decide +kernel
theorem dX12_agrees_1 : decode cX12_agrees 1 = .ok (.iload_n 2, 1) := by decide +kernel
theorem dX12_agrees_2 : decode cX12_agrees 2 = .ok (.iconst 3, 1) := by decide +kernel
theorem dX12_agrees_3 : decode cX12_agrees 3 = .ok (.imul, 1) := by decide +kernel
theorem dX12_agrees_4 : decode cX12_agrees 4 = .ok (.iload_n 3, 1) := by decide +kernel
theorem dX12_agrees_5 : decode cX12_agrees 5 = .ok (.iadd, 1) := by decide +kernel
theorem dX12_agrees_6 : decode cX12_agrees 6 = .ok (.iconst 2, 1) := by decide +kernel
theorem dX12_agrees_7 : decode cX12_agrees 7 = .ok (.imul, 1) := by decide +kernel
theorem dX12_agrees_8 : decode cX12_agrees 8 = .ok (.iload 4, 2) := by decide +kernel
theorem dX12_agrees_10 : decode cX12_agrees 10 = .ok (.iadd, 1) := by decide +kernel
theorem dX12_agrees_11 : decode cX12_agrees 11 = .ok (.iconst 2, 1) := by decide +kernel
theorem dX12_agrees_12 : decode cX12_agrees 12 = .ok (.imul, 1) := by decide +kernel
theorem dX12_agrees_13 : decode cX12_agrees 13 = .ok (.iload 5, 2) := by decide +kernel
theorem dX12_agrees_15 : decode cX12_agrees 15 = .ok (.iadd, 1) := by decide +kernel
theorem dX12_agrees_16 : decode cX12_agrees 16 = .ok (.lshr, 1) := by decide +kernel
theorem dX12_agrees_17 : decode cX12_agrees 17 = .ok (.lconst 1, 1) := by decide +kernel
theorem dX12_agrees_18 : decode cX12_agrees 18 = .ok (.land, 1) := by decide +kernel
theorem dX12_agrees_19 : decode cX12_agrees 19 = .ok (.l2i, 1) := by decide +kernel
theorem dX12_agrees_20 : decode cX12_agrees 20 = .ok (.ireturn, 1) := by decide +kernel
set_option maxRecDepth 20000 in
theorem ggX12_rooms_X12_isIn : GoodIn wsX12_rooms wsX12_isIn := goodIn_r _ [10] (by decide +kernel) (by decide +kernel)
set_option maxRecDepth 20000 in
theorem gX12_rooms_X12_isIn : GoodIn wsX12_rooms (va_wsS RX12 199 yX12_isIn wsX12_isIn) := goodIn_app (goodIn_of _ (by decide +kernel)) ggX12_rooms_X12_isIn
set_option maxRecDepth 20000 in
theorem ggX12_rooms_X12_agrees : GoodIn wsX12_rooms wsX12_agrees := goodIn_r _ [13] (by decide +kernel) (by decide +kernel)
set_option maxRecDepth 20000 in
theorem gX12_rooms_X12_agrees : GoodIn wsX12_rooms (va_wsS RX12 487 yX12_agrees wsX12_agrees) := goodIn_app (goodIn_of _ (by decide +kernel)) ggX12_rooms_X12_agrees
theorem dX12_rooms_0 : decode cX12_rooms 0 = .ok (.aload_n 0, 1) := by decide +kernel
theorem dX12_rooms_1 : decode cX12_rooms 1 = .ok (.iconst 0, 1) := by decide +kernel
theorem dX12_rooms_2 : decode cX12_rooms 2 = .ok (.putfield 101, 3) := by decide +kernel
theorem dX12_rooms_5 : decode cX12_rooms 5 = .ok (.lload_n 1, 1) := by decide +kernel
theorem dX12_rooms_6 : decode cX12_rooms 6 = .ok (.lconst 0, 1) := by decide +kernel
theorem dX12_rooms_7 : decode cX12_rooms 7 = .ok (.ldc2_w 485, 3) := by decide +kernel
theorem dX12_rooms_10 : decode cX12_rooms 10 = .ok (.invokestatic 199, 3) := by decide +kernel
theorem dX12_rooms_13 : decode cX12_rooms 13 = .ok (.ifCond .eq 13, 3) := by decide +kernel
theorem dX12_rooms_16 : decode cX12_rooms 16 = .ok (.iload_n 3, 1) := by decide +kernel
theorem dX12_rooms_17 : decode cX12_rooms 17 = .ok (.i2l, 1) := by decide +kernel
theorem dX12_rooms_18 : decode cX12_rooms 18 = .ok (.lconst 0, 1) := by decide +kernel
theorem dX12_rooms_19 : decode cX12_rooms 19 = .ok (.lconst 1, 1) := by decide +kernel
theorem dX12_rooms_20 : decode cX12_rooms 20 = .ok (.invokestatic 199, 3) := by decide +kernel
theorem dX12_rooms_23 : decode cX12_rooms 23 = .ok (.ifCond .ne 5, 3) := by decide +kernel
theorem dX12_rooms_26 : decode cX12_rooms 26 = .ok (.iconst (-1), 1) := by decide +kernel
theorem dX12_rooms_27 : decode cX12_rooms 27 = .ok (.ireturn, 1) := by decide +kernel
theorem dX12_rooms_28 : decode cX12_rooms 28 = .ok (.iconst 0, 1) := by decide +kernel
theorem dX12_rooms_29 : decode cX12_rooms 29 = .ok (.istore 4, 2) := by decide +kernel
theorem dX12_rooms_31 : decode cX12_rooms 31 = .ok (.iconst 0, 1) := by decide +kernel
theorem dX12_rooms_32 : decode cX12_rooms 32 = .ok (.istore 5, 2) := by decide +kernel
theorem dX12_rooms_34 : decode cX12_rooms 34 = .ok (.iload 5, 2) := by decide +kernel
theorem dX12_rooms_36 : decode cX12_rooms 36 = .ok (.bipush 8, 2) := by decide +kernel
theorem dX12_rooms_38 : decode cX12_rooms 38 = .ok (.if_icmp .ge 137, 3) := by decide +kernel
theorem dX12_rooms_41 : decode cX12_rooms 41 = .ok (.iconst 0, 1) := by decide +kernel
theorem dX12_rooms_42 : decode cX12_rooms 42 = .ok (.istore 6, 2) := by decide +kernel
theorem dX12_rooms_44 : decode cX12_rooms 44 = .ok (.iload 6, 2) := by decide +kernel
theorem dX12_rooms_46 : decode cX12_rooms 46 = .ok (.iload_n 3, 1) := by decide +kernel
theorem dX12_rooms_47 : decode cX12_rooms 47 = .ok (.ifCond .ne 7, 3) := by decide +kernel
theorem dX12_rooms_50 : decode cX12_rooms 50 = .ok (.iconst 1, 1) := by decide +kernel
theorem dX12_rooms_51 : decode cX12_rooms 51 = .ok (.goto 5, 3) := by decide +kernel
theorem dX12_rooms_54 : decode cX12_rooms 54 = .ok (.bipush 8, 2) := by decide +kernel
theorem dX12_rooms_56 : decode cX12_rooms 56 = .ok (.if_icmp .ge 113, 3) := by decide +kernel
theorem dX12_rooms_59 : decode cX12_rooms 59 = .ok (.iconst 0, 1) := by decide +kernel
theorem dX12_rooms_60 : decode cX12_rooms 60 = .ok (.istore 7, 2) := by decide +kernel
theorem dX12_rooms_62 : decode cX12_rooms 62 = .ok (.iload 7, 2) := by decide +kernel
theorem dX12_rooms_64 : decode cX12_rooms 64 = .ok (.iload_n 3, 1) := by decide +kernel
theorem dX12_rooms_65 : decode cX12_rooms 65 = .ok (.ifCond .ne 8, 3) := by decide +kernel
theorem dX12_rooms_68 : decode cX12_rooms 68 = .ok (.bipush 8, 2) := by decide +kernel
theorem dX12_rooms_70 : decode cX12_rooms 70 = .ok (.goto 5, 3) := by decide +kernel
theorem dX12_rooms_73 : decode cX12_rooms 73 = .ok (.bipush 64, 2) := by decide +kernel
theorem dX12_rooms_75 : decode cX12_rooms 75 = .ok (.if_icmp .ge 88, 3) := by decide +kernel
theorem dX12_rooms_78 : decode cX12_rooms 78 = .ok (.iconst 0, 1) := by decide +kernel
theorem dX12_rooms_79 : decode cX12_rooms 79 = .ok (.istore 8, 2) := by decide +kernel
theorem dX12_rooms_81 : decode cX12_rooms 81 = .ok (.iconst 0, 1) := by decide +kernel
theorem dX12_rooms_82 : decode cX12_rooms 82 = .ok (.istore 9, 2) := by decide +kernel
theorem dX12_rooms_84 : decode cX12_rooms 84 = .ok (.iload 9, 2) := by decide +kernel
theorem dX12_rooms_86 : decode cX12_rooms 86 = .ok (.iconst 3, 1) := by decide +kernel
theorem dX12_rooms_87 : decode cX12_rooms 87 = .ok (.if_icmp .ge 61, 3) := by decide +kernel
theorem dX12_rooms_90 : decode cX12_rooms 90 = .ok (.iconst 0, 1) := by decide +kernel
theorem dX12_rooms_91 : decode cX12_rooms 91 = .ok (.istore 10, 2) := by decide +kernel
theorem dX12_rooms_93 : decode cX12_rooms 93 = .ok (.iload 10, 2) := by decide +kernel
theorem dX12_rooms_95 : decode cX12_rooms 95 = .ok (.iconst 3, 1) := by decide +kernel
theorem dX12_rooms_96 : decode cX12_rooms 96 = .ok (.if_icmp .ge 46, 3) := by decide +kernel
theorem dX12_rooms_99 : decode cX12_rooms 99 = .ok (.iload 8, 2) := by decide +kernel
theorem dX12_rooms_101 : decode cX12_rooms 101 = .ok (.lload_n 1, 1) := by decide +kernel
theorem dX12_rooms_102 : decode cX12_rooms 102 = .ok (.iload 9, 2) := by decide +kernel
theorem dX12_rooms_104 : decode cX12_rooms 104 = .ok (.iload 10, 2) := by decide +kernel
theorem dX12_rooms_106 : decode cX12_rooms 106 = .ok (.iload 5, 2) := by decide +kernel
theorem dX12_rooms_108 : decode cX12_rooms 108 = .ok (.iload 9, 2) := by decide +kernel
theorem dX12_rooms_110 : decode cX12_rooms 110 = .ok (.ishr, 1) := by decide +kernel
theorem dX12_rooms_111 : decode cX12_rooms 111 = .ok (.iconst 1, 1) := by decide +kernel
theorem dX12_rooms_112 : decode cX12_rooms 112 = .ok (.iand, 1) := by decide +kernel
theorem dX12_rooms_113 : decode cX12_rooms 113 = .ok (.iload 7, 2) := by decide +kernel
theorem dX12_rooms_115 : decode cX12_rooms 115 = .ok (.iconst 3, 1) := by decide +kernel
theorem dX12_rooms_116 : decode cX12_rooms 116 = .ok (.iload 6, 2) := by decide +kernel
theorem dX12_rooms_118 : decode cX12_rooms 118 = .ok (.iload 9, 2) := by decide +kernel
theorem dX12_rooms_120 : decode cX12_rooms 120 = .ok (.ishr, 1) := by decide +kernel
theorem dX12_rooms_121 : decode cX12_rooms 121 = .ok (.iconst 1, 1) := by decide +kernel
theorem dX12_rooms_122 : decode cX12_rooms 122 = .ok (.iand, 1) := by decide +kernel
theorem dX12_rooms_123 : decode cX12_rooms 123 = .ok (.imul, 1) := by decide +kernel
theorem dX12_rooms_124 : decode cX12_rooms 124 = .ok (.iload 10, 2) := by decide +kernel
theorem dX12_rooms_126 : decode cX12_rooms 126 = .ok (.iadd, 1) := by decide +kernel
theorem dX12_rooms_127 : decode cX12_rooms 127 = .ok (.ishr, 1) := by decide +kernel
theorem dX12_rooms_128 : decode cX12_rooms 128 = .ok (.iconst 1, 1) := by decide +kernel
theorem dX12_rooms_129 : decode cX12_rooms 129 = .ok (.iand, 1) := by decide +kernel
theorem dX12_rooms_130 : decode cX12_rooms 130 = .ok (.invokestatic 487, 3) := by decide +kernel
theorem dX12_rooms_133 : decode cX12_rooms 133 = .ok (.iadd, 1) := by decide +kernel
theorem dX12_rooms_134 : decode cX12_rooms 134 = .ok (.istore 8, 2) := by decide +kernel
theorem dX12_rooms_136 : decode cX12_rooms 136 = .ok (.iinc 10 1, 3) := by decide +kernel
theorem dX12_rooms_139 : decode cX12_rooms 139 = .ok (.goto (-46), 3) := by decide +kernel
theorem dX12_rooms_142 : decode cX12_rooms 142 = .ok (.iinc 9 1, 3) := by decide +kernel
theorem dX12_rooms_145 : decode cX12_rooms 145 = .ok (.goto (-61), 3) := by decide +kernel
theorem dX12_rooms_148 : decode cX12_rooms 148 = .ok (.iload 4, 2) := by decide +kernel
theorem dX12_rooms_150 : decode cX12_rooms 150 = .ok (.iload 8, 2) := by decide +kernel
theorem dX12_rooms_152 : decode cX12_rooms 152 = .ok (.invokestatic 145, 3) := by decide +kernel
theorem dX12_rooms_155 : decode cX12_rooms 155 = .ok (.istore 4, 2) := by decide +kernel
theorem dX12_rooms_157 : decode cX12_rooms 157 = .ok (.iinc 7 1, 3) := by decide +kernel
theorem dX12_rooms_160 : decode cX12_rooms 160 = .ok (.goto (-98), 3) := by decide +kernel
theorem dX12_rooms_163 : decode cX12_rooms 163 = .ok (.iinc 6 1, 3) := by decide +kernel
theorem dX12_rooms_166 : decode cX12_rooms 166 = .ok (.goto (-122), 3) := by decide +kernel
theorem dX12_rooms_169 : decode cX12_rooms 169 = .ok (.iinc 5 1, 3) := by decide +kernel
theorem dX12_rooms_172 : decode cX12_rooms 172 = .ok (.goto (-138), 3) := by decide +kernel
theorem dX12_rooms_175 : decode cX12_rooms 175 = .ok (.iload 4, 2) := by decide +kernel
theorem dX12_rooms_177 : decode cX12_rooms 177 = .ok (.ireturn, 1) := by decide +kernel
theorem dX12_cell_0 : decode cX12_cell 0 = .ok (.iload_n 0, 1) := by decide +kernel
theorem dX12_cell_1 : decode cX12_cell 1 = .ok (.iload_n 1, 1) := by decide +kernel
theorem dX12_cell_2 : decode cX12_cell 2 = .ok (.ishr, 1) := by decide +kernel
theorem dX12_cell_3 : decode cX12_cell 3 = .ok (.iconst 1, 1) := by decide +kernel
theorem dX12_cell_4 : decode cX12_cell 4 = .ok (.iand, 1) := by decide +kernel
theorem dX12_cell_5 : decode cX12_cell 5 = .ok (.ireturn, 1) := by decide +kernel
set_option maxRecDepth 20000 in
theorem ggX12_caughtBy_X12_cell : GoodIn wsX12_caughtBy wsX12_cell := goodIn_r _ [4] (by decide +kernel) (by decide +kernel)
set_option maxRecDepth 20000 in
theorem gX12_caughtBy_X12_cell : GoodIn wsX12_caughtBy (va_wsS RX12 491 yX12_cell wsX12_cell) := goodIn_app (goodIn_of _ (by decide +kernel)) ggX12_caughtBy_X12_cell
theorem dX12_caughtBy_0 : decode cX12_caughtBy 0 = .ok (.iconst 0, 1) := by decide +kernel
theorem dX12_caughtBy_1 : decode cX12_caughtBy 1 = .ok (.istore_n 2, 1) := by decide +kernel
theorem dX12_caughtBy_2 : decode cX12_caughtBy 2 = .ok (.iconst 0, 1) := by decide +kernel
theorem dX12_caughtBy_3 : decode cX12_caughtBy 3 = .ok (.istore_n 3, 1) := by decide +kernel
theorem dX12_caughtBy_4 : decode cX12_caughtBy 4 = .ok (.iload_n 3, 1) := by decide +kernel
theorem dX12_caughtBy_5 : decode cX12_caughtBy 5 = .ok (.iconst 1, 1) := by decide +kernel
theorem dX12_caughtBy_6 : decode cX12_caughtBy 6 = .ok (.iload_n 0, 1) := by decide +kernel
theorem dX12_caughtBy_7 : decode cX12_caughtBy 7 = .ok (.ishl, 1) := by decide +kernel
theorem dX12_caughtBy_8 : decode cX12_caughtBy 8 = .ok (.if_icmp .ge 57, 3) := by decide +kernel
theorem dX12_caughtBy_11 : decode cX12_caughtBy 11 = .ok (.iconst 0, 1) := by decide +kernel
theorem dX12_caughtBy_12 : decode cX12_caughtBy 12 = .ok (.istore 4, 2) := by decide +kernel
theorem dX12_caughtBy_14 : decode cX12_caughtBy 14 = .ok (.iload 4, 2) := by decide +kernel
theorem dX12_caughtBy_16 : decode cX12_caughtBy 16 = .ok (.iconst 1, 1) := by decide +kernel
theorem dX12_caughtBy_17 : decode cX12_caughtBy 17 = .ok (.iload_n 0, 1) := by decide +kernel
theorem dX12_caughtBy_18 : decode cX12_caughtBy 18 = .ok (.ishl, 1) := by decide +kernel
theorem dX12_caughtBy_19 : decode cX12_caughtBy 19 = .ok (.if_icmp .ge 40, 3) := by decide +kernel
theorem dX12_caughtBy_22 : decode cX12_caughtBy 22 = .ok (.iload_n 2, 1) := by decide +kernel
theorem dX12_caughtBy_23 : decode cX12_caughtBy 23 = .ok (.iload_n 1, 1) := by decide +kernel
theorem dX12_caughtBy_24 : decode cX12_caughtBy 24 = .ok (.iload_n 3, 1) := by decide +kernel
theorem dX12_caughtBy_25 : decode cX12_caughtBy 25 = .ok (.iload 4, 2) := by decide +kernel
theorem dX12_caughtBy_27 : decode cX12_caughtBy 27 = .ok (.ixor, 1) := by decide +kernel
theorem dX12_caughtBy_28 : decode cX12_caughtBy 28 = .ok (.invokestatic 491, 3) := by decide +kernel
theorem dX12_caughtBy_31 : decode cX12_caughtBy 31 = .ok (.iload_n 1, 1) := by decide +kernel
theorem dX12_caughtBy_32 : decode cX12_caughtBy 32 = .ok (.iload_n 3, 1) := by decide +kernel
theorem dX12_caughtBy_33 : decode cX12_caughtBy 33 = .ok (.invokestatic 491, 3) := by decide +kernel
theorem dX12_caughtBy_36 : decode cX12_caughtBy 36 = .ok (.iload_n 1, 1) := by decide +kernel
theorem dX12_caughtBy_37 : decode cX12_caughtBy 37 = .ok (.iload 4, 2) := by decide +kernel
theorem dX12_caughtBy_39 : decode cX12_caughtBy 39 = .ok (.invokestatic 491, 3) := by decide +kernel
theorem dX12_caughtBy_42 : decode cX12_caughtBy 42 = .ok (.ixor, 1) := by decide +kernel
theorem dX12_caughtBy_43 : decode cX12_caughtBy 43 = .ok (.if_icmp .eq 7, 3) := by decide +kernel
theorem dX12_caughtBy_46 : decode cX12_caughtBy 46 = .ok (.iconst 1, 1) := by decide +kernel
theorem dX12_caughtBy_47 : decode cX12_caughtBy 47 = .ok (.goto 4, 3) := by decide +kernel
theorem dX12_caughtBy_50 : decode cX12_caughtBy 50 = .ok (.iconst 0, 1) := by decide +kernel
theorem dX12_caughtBy_51 : decode cX12_caughtBy 51 = .ok (.iadd, 1) := by decide +kernel
theorem dX12_caughtBy_52 : decode cX12_caughtBy 52 = .ok (.istore_n 2, 1) := by decide +kernel
theorem dX12_caughtBy_53 : decode cX12_caughtBy 53 = .ok (.iinc 4 1, 3) := by decide +kernel
theorem dX12_caughtBy_56 : decode cX12_caughtBy 56 = .ok (.goto (-42), 3) := by decide +kernel
theorem dX12_caughtBy_59 : decode cX12_caughtBy 59 = .ok (.iinc 3 1, 3) := by decide +kernel
theorem dX12_caughtBy_62 : decode cX12_caughtBy 62 = .ok (.goto (-58), 3) := by decide +kernel
theorem dX12_caughtBy_65 : decode cX12_caughtBy 65 = .ok (.iload_n 2, 1) := by decide +kernel
theorem dX12_caughtBy_66 : decode cX12_caughtBy 66 = .ok (.ireturn, 1) := by decide +kernel
set_option maxRecDepth 20000 in
theorem ggX12_isBook_X12_isIn : GoodIn wsX12_isBook wsX12_isIn := goodIn_r _ [5] (by decide +kernel) (by decide +kernel)
set_option maxRecDepth 20000 in
theorem gX12_isBook_X12_isIn : GoodIn wsX12_isBook (va_wsS RX12 199 yX12_isIn wsX12_isIn) := goodIn_app (goodIn_of _ (by decide +kernel)) ggX12_isBook_X12_isIn
theorem dX12_isBook_0 : decode cX12_isBook 0 = .ok (.iload_n 0, 1) := by decide +kernel
theorem dX12_isBook_1 : decode cX12_isBook 1 = .ok (.i2l, 1) := by decide +kernel
theorem dX12_isBook_2 : decode cX12_isBook 2 = .ok (.lconst 1, 1) := by decide +kernel
theorem dX12_isBook_3 : decode cX12_isBook 3 = .ok (.ldc2_w 494, 3) := by decide +kernel
theorem dX12_isBook_6 : decode cX12_isBook 6 = .ok (.invokestatic 199, 3) := by decide +kernel
theorem dX12_isBook_9 : decode cX12_isBook 9 = .ok (.ifCond .eq 23, 3) := by decide +kernel
theorem dX12_isBook_12 : decode cX12_isBook 12 = .ok (.iload_n 1, 1) := by decide +kernel
theorem dX12_isBook_13 : decode cX12_isBook 13 = .ok (.i2l, 1) := by decide +kernel
theorem dX12_isBook_14 : decode cX12_isBook 14 = .ok (.lconst 0, 1) := by decide +kernel
theorem dX12_isBook_15 : decode cX12_isBook 15 = .ok (.lconst 1, 1) := by decide +kernel
theorem dX12_isBook_16 : decode cX12_isBook 16 = .ok (.iconst 1, 1) := by decide +kernel
theorem dX12_isBook_17 : decode cX12_isBook 17 = .ok (.iload_n 0, 1) := by decide +kernel
theorem dX12_isBook_18 : decode cX12_isBook 18 = .ok (.ishl, 1) := by decide +kernel
theorem dX12_isBook_19 : decode cX12_isBook 19 = .ok (.lshl, 1) := by decide +kernel
theorem dX12_isBook_20 : decode cX12_isBook 20 = .ok (.lconst 1, 1) := by decide +kernel
theorem dX12_isBook_21 : decode cX12_isBook 21 = .ok (.lsub, 1) := by decide +kernel
theorem dX12_isBook_22 : decode cX12_isBook 22 = .ok (.invokestatic 199, 3) := by decide +kernel
theorem dX12_isBook_25 : decode cX12_isBook 25 = .ok (.ifCond .eq 7, 3) := by decide +kernel
theorem dX12_isBook_28 : decode cX12_isBook 28 = .ok (.iconst 1, 1) := by decide +kernel
theorem dX12_isBook_29 : decode cX12_isBook 29 = .ok (.goto 4, 3) := by decide +kernel
theorem dX12_isBook_32 : decode cX12_isBook 32 = .ok (.iconst 0, 1) := by decide +kernel
theorem dX12_isBook_33 : decode cX12_isBook 33 = .ok (.ireturn, 1) := by decide +kernel
set_option maxRecDepth 20000 in
theorem ggX12_book_X12_isBook : GoodIn wsX12_book wsX12_isBook := goodIn_r _ [6, 7, 8, 9, 5, 10] (by decide +kernel) (by decide +kernel)
set_option maxRecDepth 20000 in
theorem gX12_book_X12_isBook : GoodIn wsX12_book (va_wsS RX12 496 yX12_isBook wsX12_isBook) := goodIn_app (goodIn_of _ (by decide +kernel)) ggX12_book_X12_isBook
set_option maxRecDepth 20000 in
theorem ggX12_book_X12_isIn : GoodIn wsX12_book wsX12_isIn := goodIn_r _ [10] (by decide +kernel) (by decide +kernel)
set_option maxRecDepth 20000 in
theorem gX12_book_X12_isIn : GoodIn wsX12_book (va_wsS RX12 199 yX12_isIn wsX12_isIn) := goodIn_app (goodIn_of _ (by decide +kernel)) ggX12_book_X12_isIn
set_option maxRecDepth 20000 in
theorem ggX12_book_X12_caughtBy : GoodIn wsX12_book wsX12_caughtBy := goodIn_r _ [13, 14, 15, 5, 16] (by decide +kernel) (by decide +kernel)
set_option maxRecDepth 20000 in
theorem gX12_book_X12_caughtBy : GoodIn wsX12_book (va_wsS RX12 499 yX12_caughtBy wsX12_caughtBy) := goodIn_app (goodIn_of _ (by decide +kernel)) ggX12_book_X12_caughtBy
set_option maxRecDepth 20000 in
theorem ggX12_book_J6_bitCount_0f7a4 : GoodIn wsX12_book wsJ6_bitCount_0f7a4 := goodIn_r _ [20, 21, 22, 23] (by decide +kernel) (by decide +kernel)
set_option maxRecDepth 20000 in
theorem gX12_book_J6_bitCount_0f7a4 : GoodIn wsX12_book (va_wsS RX12 502 yJ6_bitCount_0f7a4 wsJ6_bitCount_0f7a4) := goodIn_app (goodIn_of _ (by decide +kernel)) ggX12_book_J6_bitCount_0f7a4
theorem dX12_book_0 : decode cX12_book 0 = .ok (.aload_n 0, 1) := by decide +kernel
theorem dX12_book_1 : decode cX12_book 1 = .ok (.iconst 0, 1) := by decide +kernel
theorem dX12_book_2 : decode cX12_book 2 = .ok (.putfield 101, 3) := by decide +kernel
theorem dX12_book_5 : decode cX12_book 5 = .ok (.iload_n 1, 1) := by decide +kernel
theorem dX12_book_6 : decode cX12_book 6 = .ok (.iload_n 2, 1) := by decide +kernel
theorem dX12_book_7 : decode cX12_book 7 = .ok (.invokestatic 496, 3) := by decide +kernel
theorem dX12_book_10 : decode cX12_book 10 = .ok (.ifCond .eq 15, 3) := by decide +kernel
theorem dX12_book_13 : decode cX12_book 13 = .ok (.iload_n 3, 1) := by decide +kernel
theorem dX12_book_14 : decode cX12_book 14 = .ok (.i2l, 1) := by decide +kernel
theorem dX12_book_15 : decode cX12_book 15 = .ok (.lconst 0, 1) := by decide +kernel
theorem dX12_book_16 : decode cX12_book 16 = .ok (.ldc2_w 217, 3) := by decide +kernel
theorem dX12_book_19 : decode cX12_book 19 = .ok (.invokestatic 199, 3) := by decide +kernel
theorem dX12_book_22 : decode cX12_book 22 = .ok (.ifCond .ne 5, 3) := by decide +kernel
theorem dX12_book_25 : decode cX12_book 25 = .ok (.iconst (-1), 1) := by decide +kernel
theorem dX12_book_26 : decode cX12_book 26 = .ok (.ireturn, 1) := by decide +kernel
theorem dX12_book_27 : decode cX12_book 27 = .ok (.iload_n 3, 1) := by decide +kernel
theorem dX12_book_28 : decode cX12_book 28 = .ok (.iconst 2, 1) := by decide +kernel
theorem dX12_book_29 : decode cX12_book 29 = .ok (.if_icmp .ge 30, 3) := by decide +kernel
theorem dX12_book_32 : decode cX12_book 32 = .ok (.iload_n 3, 1) := by decide +kernel
theorem dX12_book_33 : decode cX12_book 33 = .ok (.iconst 1, 1) := by decide +kernel
theorem dX12_book_34 : decode cX12_book 34 = .ok (.if_icmp .ne 11, 3) := by decide +kernel
theorem dX12_book_37 : decode cX12_book 37 = .ok (.iload_n 1, 1) := by decide +kernel
theorem dX12_book_38 : decode cX12_book 38 = .ok (.iload_n 2, 1) := by decide +kernel
theorem dX12_book_39 : decode cX12_book 39 = .ok (.invokestatic 499, 3) := by decide +kernel
theorem dX12_book_42 : decode cX12_book 42 = .ok (.goto 16, 3) := by decide +kernel
theorem dX12_book_45 : decode cX12_book 45 = .ok (.iload_n 1, 1) := by decide +kernel
theorem dX12_book_46 : decode cX12_book 46 = .ok (.iload_n 2, 1) := by decide +kernel
theorem dX12_book_47 : decode cX12_book 47 = .ok (.invokestatic 499, 3) := by decide +kernel
theorem dX12_book_50 : decode cX12_book 50 = .ok (.ifCond .ne 7, 3) := by decide +kernel
theorem dX12_book_53 : decode cX12_book 53 = .ok (.iconst 1, 1) := by decide +kernel
theorem dX12_book_54 : decode cX12_book 54 = .ok (.goto 4, 3) := by decide +kernel
theorem dX12_book_57 : decode cX12_book 57 = .ok (.iconst 0, 1) := by decide +kernel
theorem dX12_book_58 : decode cX12_book 58 = .ok (.ireturn, 1) := by decide +kernel
theorem dX12_book_59 : decode cX12_book 59 = .ok (.iconst (-1), 1) := by decide +kernel
theorem dX12_book_60 : decode cX12_book 60 = .ok (.istore 4, 2) := by decide +kernel
theorem dX12_book_62 : decode cX12_book 62 = .ok (.iconst (-1), 1) := by decide +kernel
theorem dX12_book_63 : decode cX12_book 63 = .ok (.istore 5, 2) := by decide +kernel
theorem dX12_book_65 : decode cX12_book 65 = .ok (.iconst 0, 1) := by decide +kernel
theorem dX12_book_66 : decode cX12_book 66 = .ok (.istore 6, 2) := by decide +kernel
theorem dX12_book_68 : decode cX12_book 68 = .ok (.iload 6, 2) := by decide +kernel
theorem dX12_book_70 : decode cX12_book 70 = .ok (.iconst 1, 1) := by decide +kernel
theorem dX12_book_71 : decode cX12_book 71 = .ok (.iload_n 1, 1) := by decide +kernel
theorem dX12_book_72 : decode cX12_book 72 = .ok (.ishl, 1) := by decide +kernel
theorem dX12_book_73 : decode cX12_book 73 = .ok (.if_icmp .ge 94, 3) := by decide +kernel
theorem dX12_book_76 : decode cX12_book 76 = .ok (.iconst 0, 1) := by decide +kernel
theorem dX12_book_77 : decode cX12_book 77 = .ok (.istore 7, 2) := by decide +kernel
theorem dX12_book_79 : decode cX12_book 79 = .ok (.iconst 0, 1) := by decide +kernel
theorem dX12_book_80 : decode cX12_book 80 = .ok (.istore 8, 2) := by decide +kernel
theorem dX12_book_82 : decode cX12_book 82 = .ok (.iload 8, 2) := by decide +kernel
theorem dX12_book_84 : decode cX12_book 84 = .ok (.iconst 1, 1) := by decide +kernel
theorem dX12_book_85 : decode cX12_book 85 = .ok (.iload_n 1, 1) := by decide +kernel
theorem dX12_book_86 : decode cX12_book 86 = .ok (.ishl, 1) := by decide +kernel
theorem dX12_book_87 : decode cX12_book 87 = .ok (.if_icmp .ge 27, 3) := by decide +kernel
theorem dX12_book_90 : decode cX12_book 90 = .ok (.iload 7, 2) := by decide +kernel
theorem dX12_book_92 : decode cX12_book 92 = .ok (.iload 8, 2) := by decide +kernel
theorem dX12_book_94 : decode cX12_book 94 = .ok (.iload 6, 2) := by decide +kernel
theorem dX12_book_96 : decode cX12_book 96 = .ok (.iand, 1) := by decide +kernel
theorem dX12_book_97 : decode cX12_book 97 = .ok (.invokestatic 502, 3) := by decide +kernel
theorem dX12_book_100 : decode cX12_book 100 = .ok (.iconst 1, 1) := by decide +kernel
theorem dX12_book_101 : decode cX12_book 101 = .ok (.iand, 1) := by decide +kernel
theorem dX12_book_102 : decode cX12_book 102 = .ok (.iload 8, 2) := by decide +kernel
theorem dX12_book_104 : decode cX12_book 104 = .ok (.ishl, 1) := by decide +kernel
theorem dX12_book_105 : decode cX12_book 105 = .ok (.ior, 1) := by decide +kernel
theorem dX12_book_106 : decode cX12_book 106 = .ok (.istore 7, 2) := by decide +kernel
theorem dX12_book_108 : decode cX12_book 108 = .ok (.iinc 8 1, 3) := by decide +kernel
theorem dX12_book_111 : decode cX12_book 111 = .ok (.goto (-29), 3) := by decide +kernel
theorem dX12_book_114 : decode cX12_book 114 = .ok (.iload 7, 2) := by decide +kernel
theorem dX12_book_116 : decode cX12_book 116 = .ok (.iload_n 2, 1) := by decide +kernel
theorem dX12_book_117 : decode cX12_book 117 = .ok (.ixor, 1) := by decide +kernel
theorem dX12_book_118 : decode cX12_book 118 = .ok (.invokestatic 502, 3) := by decide +kernel
theorem dX12_book_121 : decode cX12_book 121 = .ok (.istore 8, 2) := by decide +kernel
theorem dX12_book_123 : decode cX12_book 123 = .ok (.iload 4, 2) := by decide +kernel
theorem dX12_book_125 : decode cX12_book 125 = .ok (.iconst (-1), 1) := by decide +kernel
theorem dX12_book_126 : decode cX12_book 126 = .ok (.if_icmp .eq 27, 3) := by decide +kernel
theorem dX12_book_129 : decode cX12_book 129 = .ok (.iload 8, 2) := by decide +kernel
theorem dX12_book_131 : decode cX12_book 131 = .ok (.iload 5, 2) := by decide +kernel
theorem dX12_book_133 : decode cX12_book 133 = .ok (.if_icmp .gt 28, 3) := by decide +kernel
theorem dX12_book_136 : decode cX12_book 136 = .ok (.iload 8, 2) := by decide +kernel
theorem dX12_book_138 : decode cX12_book 138 = .ok (.iload 5, 2) := by decide +kernel
theorem dX12_book_140 : decode cX12_book 140 = .ok (.if_icmp .ne 13, 3) := by decide +kernel
theorem dX12_book_143 : decode cX12_book 143 = .ok (.iload 7, 2) := by decide +kernel
theorem dX12_book_145 : decode cX12_book 145 = .ok (.iload 4, 2) := by decide +kernel
theorem dX12_book_147 : decode cX12_book 147 = .ok (.if_icmp .lt 6, 3) := by decide +kernel
theorem dX12_book_150 : decode cX12_book 150 = .ok (.goto 11, 3) := by decide +kernel
theorem dX12_book_153 : decode cX12_book 153 = .ok (.iload 7, 2) := by decide +kernel
theorem dX12_book_155 : decode cX12_book 155 = .ok (.istore 4, 2) := by decide +kernel
theorem dX12_book_157 : decode cX12_book 157 = .ok (.iload 8, 2) := by decide +kernel
theorem dX12_book_159 : decode cX12_book 159 = .ok (.istore 5, 2) := by decide +kernel
theorem dX12_book_161 : decode cX12_book 161 = .ok (.iinc 6 1, 3) := by decide +kernel
theorem dX12_book_164 : decode cX12_book 164 = .ok (.goto (-96), 3) := by decide +kernel
theorem dX12_book_167 : decode cX12_book 167 = .ok (.iload_n 3, 1) := by decide +kernel
theorem dX12_book_168 : decode cX12_book 168 = .ok (.iconst 2, 1) := by decide +kernel
theorem dX12_book_169 : decode cX12_book 169 = .ok (.if_icmp .ne 8, 3) := by decide +kernel
theorem dX12_book_172 : decode cX12_book 172 = .ok (.iload 5, 2) := by decide +kernel
theorem dX12_book_174 : decode cX12_book 174 = .ok (.goto 5, 3) := by decide +kernel
theorem dX12_book_177 : decode cX12_book 177 = .ok (.iload 4, 2) := by decide +kernel
theorem dX12_book_179 : decode cX12_book 179 = .ok (.ireturn, 1) := by decide +kernel
set_option maxRecDepth 20000 in
theorem ggX12_mended_X12_isBook : GoodIn wsX12_mended wsX12_isBook := goodIn_r _ [5, 6, 7, 8, 4, 9] (by decide +kernel) (by decide +kernel)
set_option maxRecDepth 20000 in
theorem gX12_mended_X12_isBook : GoodIn wsX12_mended (va_wsS RX12 496 yX12_isBook wsX12_isBook) := goodIn_app (goodIn_of _ (by decide +kernel)) ggX12_mended_X12_isBook
set_option maxRecDepth 20000 in
theorem ggX12_mended_X12_isIn : GoodIn wsX12_mended wsX12_isIn := goodIn_r _ [9] (by decide +kernel) (by decide +kernel)
set_option maxRecDepth 20000 in
theorem gX12_mended_X12_isIn : GoodIn wsX12_mended (va_wsS RX12 199 yX12_isIn wsX12_isIn) := goodIn_app (goodIn_of _ (by decide +kernel)) ggX12_mended_X12_isIn
set_option maxRecDepth 20000 in
theorem ggX12_mended_X12_cell : GoodIn wsX12_mended wsX12_cell := goodIn_r _ [12] (by decide +kernel) (by decide +kernel)
set_option maxRecDepth 20000 in
theorem gX12_mended_X12_cell : GoodIn wsX12_mended (va_wsS RX12 491 yX12_cell wsX12_cell) := goodIn_app (goodIn_of _ (by decide +kernel)) ggX12_mended_X12_cell
theorem dX12_mended_0 : decode cX12_mended 0 = .ok (.aload_n 0, 1) := by decide +kernel
theorem dX12_mended_1 : decode cX12_mended 1 = .ok (.iconst 0, 1) := by decide +kernel
theorem dX12_mended_2 : decode cX12_mended 2 = .ok (.putfield 101, 3) := by decide +kernel
theorem dX12_mended_5 : decode cX12_mended 5 = .ok (.iload_n 1, 1) := by decide +kernel
theorem dX12_mended_6 : decode cX12_mended 6 = .ok (.iload_n 2, 1) := by decide +kernel
theorem dX12_mended_7 : decode cX12_mended 7 = .ok (.invokestatic 496, 3) := by decide +kernel
theorem dX12_mended_10 : decode cX12_mended 10 = .ok (.ifCond .eq 18, 3) := by decide +kernel
theorem dX12_mended_13 : decode cX12_mended 13 = .ok (.iload_n 3, 1) := by decide +kernel
theorem dX12_mended_14 : decode cX12_mended 14 = .ok (.i2l, 1) := by decide +kernel
theorem dX12_mended_15 : decode cX12_mended 15 = .ok (.lconst 0, 1) := by decide +kernel
theorem dX12_mended_16 : decode cX12_mended 16 = .ok (.iconst 1, 1) := by decide +kernel
theorem dX12_mended_17 : decode cX12_mended 17 = .ok (.iload_n 1, 1) := by decide +kernel
theorem dX12_mended_18 : decode cX12_mended 18 = .ok (.ishl, 1) := by decide +kernel
theorem dX12_mended_19 : decode cX12_mended 19 = .ok (.iconst 1, 1) := by decide +kernel
theorem dX12_mended_20 : decode cX12_mended 20 = .ok (.isub, 1) := by decide +kernel
theorem dX12_mended_21 : decode cX12_mended 21 = .ok (.i2l, 1) := by decide +kernel
theorem dX12_mended_22 : decode cX12_mended 22 = .ok (.invokestatic 199, 3) := by decide +kernel
theorem dX12_mended_25 : decode cX12_mended 25 = .ok (.ifCond .ne 5, 3) := by decide +kernel
theorem dX12_mended_28 : decode cX12_mended 28 = .ok (.iconst (-1), 1) := by decide +kernel
theorem dX12_mended_29 : decode cX12_mended 29 = .ok (.ireturn, 1) := by decide +kernel
theorem dX12_mended_30 : decode cX12_mended 30 = .ok (.iconst 0, 1) := by decide +kernel
theorem dX12_mended_31 : decode cX12_mended 31 = .ok (.istore 4, 2) := by decide +kernel
theorem dX12_mended_33 : decode cX12_mended 33 = .ok (.iconst 0, 1) := by decide +kernel
theorem dX12_mended_34 : decode cX12_mended 34 = .ok (.istore 5, 2) := by decide +kernel
theorem dX12_mended_36 : decode cX12_mended 36 = .ok (.iload 5, 2) := by decide +kernel
theorem dX12_mended_38 : decode cX12_mended 38 = .ok (.iconst 1, 1) := by decide +kernel
theorem dX12_mended_39 : decode cX12_mended 39 = .ok (.iload_n 1, 1) := by decide +kernel
theorem dX12_mended_40 : decode cX12_mended 40 = .ok (.ishl, 1) := by decide +kernel
theorem dX12_mended_41 : decode cX12_mended 41 = .ok (.if_icmp .ge 29, 3) := by decide +kernel
theorem dX12_mended_44 : decode cX12_mended 44 = .ok (.iload 4, 2) := by decide +kernel
theorem dX12_mended_46 : decode cX12_mended 46 = .ok (.iload_n 2, 1) := by decide +kernel
theorem dX12_mended_47 : decode cX12_mended 47 = .ok (.iload_n 3, 1) := by decide +kernel
theorem dX12_mended_48 : decode cX12_mended 48 = .ok (.iload 5, 2) := by decide +kernel
theorem dX12_mended_50 : decode cX12_mended 50 = .ok (.ixor, 1) := by decide +kernel
theorem dX12_mended_51 : decode cX12_mended 51 = .ok (.invokestatic 491, 3) := by decide +kernel
theorem dX12_mended_54 : decode cX12_mended 54 = .ok (.iload_n 2, 1) := by decide +kernel
theorem dX12_mended_55 : decode cX12_mended 55 = .ok (.iload 5, 2) := by decide +kernel
theorem dX12_mended_57 : decode cX12_mended 57 = .ok (.invokestatic 491, 3) := by decide +kernel
theorem dX12_mended_60 : decode cX12_mended 60 = .ok (.ixor, 1) := by decide +kernel
theorem dX12_mended_61 : decode cX12_mended 61 = .ok (.iadd, 1) := by decide +kernel
theorem dX12_mended_62 : decode cX12_mended 62 = .ok (.istore 4, 2) := by decide +kernel
theorem dX12_mended_64 : decode cX12_mended 64 = .ok (.iinc 5 1, 3) := by decide +kernel
theorem dX12_mended_67 : decode cX12_mended 67 = .ok (.goto (-31), 3) := by decide +kernel
theorem dX12_mended_70 : decode cX12_mended 70 = .ok (.iconst 2, 1) := by decide +kernel
theorem dX12_mended_71 : decode cX12_mended 71 = .ok (.iload 4, 2) := by decide +kernel
theorem dX12_mended_73 : decode cX12_mended 73 = .ok (.imul, 1) := by decide +kernel
theorem dX12_mended_74 : decode cX12_mended 74 = .ok (.iconst 1, 1) := by decide +kernel
theorem dX12_mended_75 : decode cX12_mended 75 = .ok (.iload_n 1, 1) := by decide +kernel
theorem dX12_mended_76 : decode cX12_mended 76 = .ok (.ishl, 1) := by decide +kernel
theorem dX12_mended_77 : decode cX12_mended 77 = .ok (.if_icmp .le 7, 3) := by decide +kernel
theorem dX12_mended_80 : decode cX12_mended 80 = .ok (.iconst 1, 1) := by decide +kernel
theorem dX12_mended_81 : decode cX12_mended 81 = .ok (.goto 4, 3) := by decide +kernel
theorem dX12_mended_84 : decode cX12_mended 84 = .ok (.iconst 0, 1) := by decide +kernel
theorem dX12_mended_85 : decode cX12_mended 85 = .ok (.ireturn, 1) := by decide +kernel
set_option maxRecDepth 20000 in
theorem ggX12_least_X12_isIn : GoodIn wsX12_least wsX12_isIn := goodIn_r _ [6] (by decide +kernel) (by decide +kernel)
set_option maxRecDepth 20000 in
theorem gX12_least_X12_isIn : GoodIn wsX12_least (va_wsS RX12 199 yX12_isIn wsX12_isIn) := goodIn_app (goodIn_of _ (by decide +kernel)) ggX12_least_X12_isIn
set_option maxRecDepth 20000 in
theorem ggX12_least_X12_caughtBy : GoodIn wsX12_least wsX12_caughtBy := goodIn_r _ [9, 10, 11, 5, 12] (by decide +kernel) (by decide +kernel)
set_option maxRecDepth 20000 in
theorem gX12_least_X12_caughtBy : GoodIn wsX12_least (va_wsS RX12 499 yX12_caughtBy wsX12_caughtBy) := goodIn_app (goodIn_of _ (by decide +kernel)) ggX12_least_X12_caughtBy
theorem dX12_least_0 : decode cX12_least 0 = .ok (.aload_n 0, 1) := by decide +kernel
theorem dX12_least_1 : decode cX12_least 1 = .ok (.iconst 0, 1) := by decide +kernel
theorem dX12_least_2 : decode cX12_least 2 = .ok (.putfield 101, 3) := by decide +kernel
theorem dX12_least_5 : decode cX12_least 5 = .ok (.iload_n 1, 1) := by decide +kernel
theorem dX12_least_6 : decode cX12_least 6 = .ok (.i2l, 1) := by decide +kernel
theorem dX12_least_7 : decode cX12_least 7 = .ok (.lconst 1, 1) := by decide +kernel
theorem dX12_least_8 : decode cX12_least 8 = .ok (.ldc2_w 217, 3) := by decide +kernel
theorem dX12_least_11 : decode cX12_least 11 = .ok (.invokestatic 199, 3) := by decide +kernel
theorem dX12_least_14 : decode cX12_least 14 = .ok (.ifCond .eq 13, 3) := by decide +kernel
theorem dX12_least_17 : decode cX12_least 17 = .ok (.iload_n 2, 1) := by decide +kernel
theorem dX12_least_18 : decode cX12_least 18 = .ok (.i2l, 1) := by decide +kernel
theorem dX12_least_19 : decode cX12_least 19 = .ok (.lconst 0, 1) := by decide +kernel
theorem dX12_least_20 : decode cX12_least 20 = .ok (.lconst 1, 1) := by decide +kernel
theorem dX12_least_21 : decode cX12_least 21 = .ok (.invokestatic 199, 3) := by decide +kernel
theorem dX12_least_24 : decode cX12_least 24 = .ok (.ifCond .ne 5, 3) := by decide +kernel
theorem dX12_least_27 : decode cX12_least 27 = .ok (.iconst (-1), 1) := by decide +kernel
theorem dX12_least_28 : decode cX12_least 28 = .ok (.ireturn, 1) := by decide +kernel
theorem dX12_least_29 : decode cX12_least 29 = .ok (.iconst (-1), 1) := by decide +kernel
theorem dX12_least_30 : decode cX12_least 30 = .ok (.istore_n 3, 1) := by decide +kernel
theorem dX12_least_31 : decode cX12_least 31 = .ok (.iconst 0, 1) := by decide +kernel
theorem dX12_least_32 : decode cX12_least 32 = .ok (.istore 4, 2) := by decide +kernel
theorem dX12_least_34 : decode cX12_least 34 = .ok (.iload 4, 2) := by decide +kernel
theorem dX12_least_36 : decode cX12_least 36 = .ok (.iconst 1, 1) := by decide +kernel
theorem dX12_least_37 : decode cX12_least 37 = .ok (.iconst 1, 1) := by decide +kernel
theorem dX12_least_38 : decode cX12_least 38 = .ok (.iload_n 1, 1) := by decide +kernel
theorem dX12_least_39 : decode cX12_least 39 = .ok (.ishl, 1) := by decide +kernel
theorem dX12_least_40 : decode cX12_least 40 = .ok (.ishl, 1) := by decide +kernel
theorem dX12_least_41 : decode cX12_least 41 = .ok (.if_icmp .ge 40, 3) := by decide +kernel
theorem dX12_least_44 : decode cX12_least 44 = .ok (.iload_n 1, 1) := by decide +kernel
theorem dX12_least_45 : decode cX12_least 45 = .ok (.iload 4, 2) := by decide +kernel
theorem dX12_least_47 : decode cX12_least 47 = .ok (.invokestatic 499, 3) := by decide +kernel
theorem dX12_least_50 : decode cX12_least 50 = .ok (.istore 5, 2) := by decide +kernel
theorem dX12_least_52 : decode cX12_least 52 = .ok (.iload 5, 2) := by decide +kernel
theorem dX12_least_54 : decode cX12_least 54 = .ok (.ifCond .le 21, 3) := by decide +kernel
theorem dX12_least_57 : decode cX12_least 57 = .ok (.iload_n 3, 1) := by decide +kernel
theorem dX12_least_58 : decode cX12_least 58 = .ok (.iconst (-1), 1) := by decide +kernel
theorem dX12_least_59 : decode cX12_least 59 = .ok (.if_icmp .eq 13, 3) := by decide +kernel
theorem dX12_least_62 : decode cX12_least 62 = .ok (.iload 5, 2) := by decide +kernel
theorem dX12_least_64 : decode cX12_least 64 = .ok (.iload_n 1, 1) := by decide +kernel
theorem dX12_least_65 : decode cX12_least 65 = .ok (.iload_n 3, 1) := by decide +kernel
theorem dX12_least_66 : decode cX12_least 66 = .ok (.invokestatic 499, 3) := by decide +kernel
theorem dX12_least_69 : decode cX12_least 69 = .ok (.if_icmp .ge 6, 3) := by decide +kernel
theorem dX12_least_72 : decode cX12_least 72 = .ok (.iload 4, 2) := by decide +kernel
theorem dX12_least_74 : decode cX12_least 74 = .ok (.istore_n 3, 1) := by decide +kernel
theorem dX12_least_75 : decode cX12_least 75 = .ok (.iinc 4 1, 3) := by decide +kernel
theorem dX12_least_78 : decode cX12_least 78 = .ok (.goto (-44), 3) := by decide +kernel
theorem dX12_least_81 : decode cX12_least 81 = .ok (.iload_n 3, 1) := by decide +kernel
theorem dX12_least_82 : decode cX12_least 82 = .ok (.iconst (-1), 1) := by decide +kernel
theorem dX12_least_83 : decode cX12_least 83 = .ok (.if_icmp .ne 7, 3) := by decide +kernel
theorem dX12_least_86 : decode cX12_least 86 = .ok (.iconst (-1), 1) := by decide +kernel
theorem dX12_least_87 : decode cX12_least 87 = .ok (.goto 16, 3) := by decide +kernel
theorem dX12_least_90 : decode cX12_least 90 = .ok (.iload_n 2, 1) := by decide +kernel
theorem dX12_least_91 : decode cX12_least 91 = .ok (.ifCond .ne 11, 3) := by decide +kernel
theorem dX12_least_94 : decode cX12_least 94 = .ok (.iload_n 1, 1) := by decide +kernel
theorem dX12_least_95 : decode cX12_least 95 = .ok (.iload_n 3, 1) := by decide +kernel
theorem dX12_least_96 : decode cX12_least 96 = .ok (.invokestatic 499, 3) := by decide +kernel
theorem dX12_least_99 : decode cX12_least 99 = .ok (.goto 4, 3) := by decide +kernel
theorem dX12_least_102 : decode cX12_least 102 = .ok (.iload_n 3, 1) := by decide +kernel
theorem dX12_least_103 : decode cX12_least 103 = .ok (.ireturn, 1) := by decide +kernel
theorem dX12_count_0 : decode cX12_count 0 = .ok (.aload_n 0, 1) := by decide +kernel
theorem dX12_count_1 : decode cX12_count 1 = .ok (.iconst 0, 1) := by decide +kernel
theorem dX12_count_2 : decode cX12_count 2 = .ok (.putfield 101, 3) := by decide +kernel
theorem dX12_count_5 : decode cX12_count 5 = .ok (.iload_n 1, 1) := by decide +kernel
theorem dX12_count_6 : decode cX12_count 6 = .ok (.tableswitch 77 0 6 #[42, 47, 52, 57, 62, 67, 72], 42) := by decide +kernel
theorem dX12_count_48 : decode cX12_count 48 = .ok (.aload_n 0, 1) := by decide +kernel
theorem dX12_count_49 : decode cX12_count 49 = .ok (.getfield 170, 3) := by decide +kernel
theorem dX12_count_52 : decode cX12_count 52 = .ok (.ireturn, 1) := by decide +kernel
theorem dX12_count_53 : decode cX12_count 53 = .ok (.aload_n 0, 1) := by decide +kernel
theorem dX12_count_54 : decode cX12_count 54 = .ok (.getfield 309, 3) := by decide +kernel
theorem dX12_count_57 : decode cX12_count 57 = .ok (.ireturn, 1) := by decide +kernel
theorem dX12_count_58 : decode cX12_count 58 = .ok (.aload_n 0, 1) := by decide +kernel
theorem dX12_count_59 : decode cX12_count 59 = .ok (.getfield 316, 3) := by decide +kernel
theorem dX12_count_62 : decode cX12_count 62 = .ok (.ireturn, 1) := by decide +kernel
theorem dX12_count_63 : decode cX12_count 63 = .ok (.aload_n 0, 1) := by decide +kernel
theorem dX12_count_64 : decode cX12_count 64 = .ok (.getfield 330, 3) := by decide +kernel
theorem dX12_count_67 : decode cX12_count 67 = .ok (.ireturn, 1) := by decide +kernel
theorem dX12_count_68 : decode cX12_count 68 = .ok (.aload_n 0, 1) := by decide +kernel
theorem dX12_count_69 : decode cX12_count 69 = .ok (.getfield 466, 3) := by decide +kernel
theorem dX12_count_72 : decode cX12_count 72 = .ok (.ireturn, 1) := by decide +kernel
theorem dX12_count_73 : decode cX12_count 73 = .ok (.aload_n 0, 1) := by decide +kernel
theorem dX12_count_74 : decode cX12_count 74 = .ok (.getfield 212, 3) := by decide +kernel
theorem dX12_count_77 : decode cX12_count 77 = .ok (.ireturn, 1) := by decide +kernel
theorem dX12_count_78 : decode cX12_count 78 = .ok (.aload_n 0, 1) := by decide +kernel
theorem dX12_count_79 : decode cX12_count 79 = .ok (.getfield 105, 3) := by decide +kernel
theorem dX12_count_82 : decode cX12_count 82 = .ok (.ireturn, 1) := by decide +kernel
theorem dX12_count_83 : decode cX12_count 83 = .ok (.iconst (-1), 1) := by decide +kernel
theorem dX12_count_84 : decode cX12_count 84 = .ok (.ireturn, 1) := by decide +kernel
