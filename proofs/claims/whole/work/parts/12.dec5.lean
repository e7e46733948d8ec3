theorem dX9_parses_177 : decode cX9_parses 177 = .ok (.isub, 1) := by decide +kernel
theorem dX9_parses_178 : decode cX9_parses 178 = .ok (.putfield 288, 3) := by decide +kernel
theorem dX9_parses_181 : decode cX9_parses 181 = .ok (.aload_n 0, 1) := by decide +kernel
theorem dX9_parses_182 : decode cX9_parses 182 = .ok (.invokevirtual 295, 3) := by decide +kernel
theorem dX9_parses_185 : decode cX9_parses 185 = .ok (.goto (-40), 3) := by decide +kernel
theorem dX9_parses_188 : decode cX9_parses 188 = .ok (.aload_n 0, 1) := by decide +kernel
theorem dX9_parses_189 : decode cX9_parses 189 = .ok (.invokevirtual 278, 3) := by decide +kernel
theorem dX9_parses_192 : decode cX9_parses 192 = .ok (.iconst (-1), 1) := by decide +kernel
theorem dX9_parses_193 : decode cX9_parses 193 = .ok (.if_icmp .ne 12, 3) := by decide +kernel
theorem dX9_parses_196 : decode cX9_parses 196 = .ok (.aload_n 0, 1) := by decide +kernel
theorem dX9_parses_197 : decode cX9_parses 197 = .ok (.getfield 288, 3) := by decide +kernel
theorem dX9_parses_200 : decode cX9_parses 200 = .ok (.ifCond .ne 5, 3) := by decide +kernel
theorem dX9_parses_203 : decode cX9_parses 203 = .ok (.iconst 1, 1) := by decide +kernel
theorem dX9_parses_204 : decode cX9_parses 204 = .ok (.ireturn, 1) := by decide +kernel
theorem dX9_parses_205 : decode cX9_parses 205 = .ok (.aload_n 0, 1) := by decide +kernel
theorem dX9_parses_206 : decode cX9_parses 206 = .ok (.invokevirtual 278, 3) := by decide +kernel
theorem dX9_parses_209 : decode cX9_parses 209 = .ok (.bipush 124, 2) := by decide +kernel
theorem dX9_parses_211 : decode cX9_parses 211 = .ok (.if_icmp .eq 14, 3) := by decide +kernel
theorem dX9_parses_214 : decode cX9_parses 214 = .ok (.aload_n 0, 1) := by decide +kernel
theorem dX9_parses_215 : decode cX9_parses 215 = .ok (.invokevirtual 278, 3) := by decide +kernel
theorem dX9_parses_218 : decode cX9_parses 218 = .ok (.bipush 38, 2) := by decide +kernel
theorem dX9_parses_220 : decode cX9_parses 220 = .ok (.if_icmp .eq 5, 3) := by decide +kernel
theorem dX9_parses_223 : decode cX9_parses 223 = .ok (.iconst 0, 1) := by decide +kernel
theorem dX9_parses_224 : decode cX9_parses 224 = .ok (.ireturn, 1) := by decide +kernel
theorem dX9_parses_225 : decode cX9_parses 225 = .ok (.aload_n 0, 1) := by decide +kernel
theorem dX9_parses_226 : decode cX9_parses 226 = .ok (.dup, 1) := by decide +kernel
theorem dX9_parses_227 : decode cX9_parses 227 = .ok (.getfield 275, 3) := by decide +kernel
theorem dX9_parses_230 : decode cX9_parses 230 = .ok (.iconst 1, 1) := by decide +kernel
theorem dX9_parses_231 : decode cX9_parses 231 = .ok (.iadd, 1) := by decide +kernel
theorem dX9_parses_232 : decode cX9_parses 232 = .ok (.putfield 275, 3) := by decide +kernel
theorem dX9_parses_235 : decode cX9_parses 235 = .ok (.goto (-225), 3) := by decide +kernel
theorem dX9_order_0 : decode cX9_order 0 = .ok (.iload_n 1, 1) := by decide +kernel
theorem dX9_order_1 : decode cX9_order 1 = .ok (.i2l, 1) := by decide +kernel
theorem dX9_order_2 : decode cX9_order 2 = .ok (.lconst 0, 1) := by decide +kernel
theorem dX9_order_3 : decode cX9_order 3 = .ok (.ldc2_w 262, 3) := by decide +kernel
theorem dX9_order_6 : decode cX9_order 6 = .ok (.invokestatic 203, 3) := by decide +kernel
theorem dX9_order_9 : decode cX9_order 9 = .ok (.ifCond .ne 10, 3) := by decide +kernel
theorem dX9_order_12 : decode cX9_order 12 = .ok (.aload_n 0, 1) := by decide +kernel
theorem dX9_order_13 : decode cX9_order 13 = .ok (.bipush (-2), 2) := by decide +kernel
theorem dX9_order_15 : decode cX9_order 15 = .ok (.invokevirtual 192, 3) := by decide +kernel
theorem dX9_order_18 : decode cX9_order 18 = .ok (.ireturn, 1) := by decide +kernel
theorem dX9_order_19 : decode cX9_order 19 = .ok (.aload_n 0, 1) := by decide +kernel
theorem dX9_order_20 : decode cX9_order 20 = .ok (.getfield 298, 3) := by decide +kernel
theorem dX9_order_23 : decode cX9_order 23 = .ok (.bipush 30, 2) := by decide +kernel
theorem dX9_order_25 : decode cX9_order 25 = .ok (.if_icmp .ne 10, 3) := by decide +kernel
theorem dX9_order_28 : decode cX9_order 28 = .ok (.aload_n 0, 1) := by decide +kernel
theorem dX9_order_29 : decode cX9_order 29 = .ok (.bipush (-6), 2) := by decide +kernel
theorem dX9_order_31 : decode cX9_order 31 = .ok (.invokevirtual 192, 3) := by decide +kernel
theorem dX9_order_34 : decode cX9_order 34 = .ok (.ireturn, 1) := by decide +kernel
theorem dX9_order_35 : decode cX9_order 35 = .ok (.aload_n 0, 1) := by decide +kernel
theorem dX9_order_36 : decode cX9_order 36 = .ok (.invokevirtual 301, 3) := by decide +kernel
theorem dX9_order_39 : decode cX9_order 39 = .ok (.istore_n 2, 1) := by decide +kernel
theorem dX9_order_40 : decode cX9_order 40 = .ok (.aload_n 0, 1) := by decide +kernel
theorem dX9_order_41 : decode cX9_order 41 = .ok (.getfield 270, 3) := by decide +kernel
theorem dX9_order_44 : decode cX9_order 44 = .ok (.istore_n 3, 1) := by decide +kernel
theorem dX9_order_45 : decode cX9_order 45 = .ok (.aload_n 0, 1) := by decide +kernel
theorem dX9_order_46 : decode cX9_order 46 = .ok (.iconst 0, 1) := by decide +kernel
theorem dX9_order_47 : decode cX9_order 47 = .ok (.putfield 270, 3) := by decide +kernel
theorem dX9_order_50 : decode cX9_order 50 = .ok (.iload_n 2, 1) := by decide +kernel
theorem dX9_order_51 : decode cX9_order 51 = .ok (.ifCond .ne 11, 3) := by decide +kernel
theorem dX9_order_54 : decode cX9_order 54 = .ok (.bipush (-20), 2) := by decide +kernel
theorem dX9_order_56 : decode cX9_order 56 = .ok (.aload_n 0, 1) := by decide +kernel
theorem dX9_order_57 : decode cX9_order 57 = .ok (.getfield 275, 3) := by decide +kernel
theorem dX9_order_60 : decode cX9_order 60 = .ok (.isub, 1) := by decide +kernel
theorem dX9_order_61 : decode cX9_order 61 = .ok (.ireturn, 1) := by decide +kernel
theorem dX9_order_62 : decode cX9_order 62 = .ok (.iconst 0, 1) := by decide +kernel
theorem dX9_order_63 : decode cX9_order 63 = .ok (.istore 4, 2) := by decide +kernel
theorem dX9_order_65 : decode cX9_order 65 = .ok (.iload 4, 2) := by decide +kernel
theorem dX9_order_67 : decode cX9_order 67 = .ok (.iload_n 3, 1) := by decide +kernel
theorem dX9_order_68 : decode cX9_order 68 = .ok (.if_icmp .ge 31, 3) := by decide +kernel
theorem dX9_order_71 : decode cX9_order 71 = .ok (.aload_n 0, 1) := by decide +kernel
theorem dX9_order_72 : decode cX9_order 72 = .ok (.getfield 123, 3) := by decide +kernel
theorem dX9_order_75 : decode cX9_order 75 = .ok (.bipush 60, 2) := by decide +kernel
theorem dX9_order_77 : decode cX9_order 77 = .ok (.aload_n 0, 1) := by decide +kernel
theorem dX9_order_78 : decode cX9_order 78 = .ok (.getfield 298, 3) := by decide +kernel
theorem dX9_order_81 : decode cX9_order 81 = .ok (.imul, 1) := by decide +kernel
theorem dX9_order_82 : decode cX9_order 82 = .ok (.iload 4, 2) := by decide +kernel
theorem dX9_order_84 : decode cX9_order 84 = .ok (.iadd, 1) := by decide +kernel
theorem dX9_order_85 : decode cX9_order 85 = .ok (.aload_n 0, 1) := by decide +kernel
theorem dX9_order_86 : decode cX9_order 86 = .ok (.getfield 120, 3) := by decide +kernel
theorem dX9_order_89 : decode cX9_order 89 = .ok (.iload 4, 2) := by decide +kernel
theorem dX9_order_91 : decode cX9_order 91 = .ok (.iaload, 1) := by decide +kernel
theorem dX9_order_92 : decode cX9_order 92 = .ok (.iastore, 1) := by decide +kernel
theorem dX9_order_93 : decode cX9_order 93 = .ok (.iinc 4 1, 3) := by decide +kernel
theorem dX9_order_96 : decode cX9_order 96 = .ok (.goto (-31), 3) := by decide +kernel
theorem dX9_order_99 : decode cX9_order 99 = .ok (.aload_n 0, 1) := by decide +kernel
theorem dX9_order_100 : decode cX9_order 100 = .ok (.getfield 126, 3) := by decide +kernel
theorem dX9_order_103 : decode cX9_order 103 = .ok (.aload_n 0, 1) := by decide +kernel
theorem dX9_order_104 : decode cX9_order 104 = .ok (.getfield 298, 3) := by decide +kernel
theorem dX9_order_107 : decode cX9_order 107 = .ok (.iload_n 3, 1) := by decide +kernel
theorem dX9_order_108 : decode cX9_order 108 = .ok (.iastore, 1) := by decide +kernel
theorem dX9_order_109 : decode cX9_order 109 = .ok (.aload_n 0, 1) := by decide +kernel
theorem dX9_order_110 : decode cX9_order 110 = .ok (.getfield 129, 3) := by decide +kernel
theorem dX9_order_113 : decode cX9_order 113 = .ok (.aload_n 0, 1) := by decide +kernel
theorem dX9_order_114 : decode cX9_order 114 = .ok (.getfield 298, 3) := by decide +kernel
theorem dX9_order_117 : decode cX9_order 117 = .ok (.iload_n 1, 1) := by decide +kernel
theorem dX9_order_118 : decode cX9_order 118 = .ok (.iastore, 1) := by decide +kernel
theorem dX9_order_119 : decode cX9_order 119 = .ok (.aload_n 0, 1) := by decide +kernel
theorem dX9_order_120 : decode cX9_order 120 = .ok (.getfield 132, 3) := by decide +kernel
theorem dX9_order_123 : decode cX9_order 123 = .ok (.aload_n 0, 1) := by decide +kernel
theorem dX9_order_124 : decode cX9_order 124 = .ok (.getfield 298, 3) := by decide +kernel
theorem dX9_order_127 : decode cX9_order 127 = .ok (.aload_n 0, 1) := by decide +kernel
theorem dX9_order_128 : decode cX9_order 128 = .ok (.getfield 207, 3) := by decide +kernel
theorem dX9_order_131 : decode cX9_order 131 = .ok (.iastore, 1) := by decide +kernel
theorem dX9_order_132 : decode cX9_order 132 = .ok (.aload_n 0, 1) := by decide +kernel
theorem dX9_order_133 : decode cX9_order 133 = .ok (.dup, 1) := by decide +kernel
theorem dX9_order_134 : decode cX9_order 134 = .ok (.getfield 298, 3) := by decide +kernel
theorem dX9_order_137 : decode cX9_order 137 = .ok (.iconst 1, 1) := by decide +kernel
theorem dX9_order_138 : decode cX9_order 138 = .ok (.iadd, 1) := by decide +kernel
theorem dX9_order_139 : decode cX9_order 139 = .ok (.putfield 298, 3) := by decide +kernel
theorem dX9_order_142 : decode cX9_order 142 = .ok (.aload_n 0, 1) := by decide +kernel
theorem dX9_order_143 : decode cX9_order 143 = .ok (.getfield 298, 3) := by decide +kernel
theorem dX9_order_146 : decode cX9_order 146 = .ok (.ireturn, 1) := by decide +kernel
theorem dX9_signOf_0 : decode cX9_signOf 0 = .ok (.aload_n 0, 1) := by decide +kernel
theorem dX9_signOf_1 : decode cX9_signOf 1 = .ok (.getfield 304, 3) := by decide +kernel
theorem dX9_signOf_4 : decode cX9_signOf 4 = .ok (.aload_n 0, 1) := by decide +kernel
theorem dX9_signOf_5 : decode cX9_signOf 5 = .ok (.getfield 126, 3) := by decide +kernel
theorem dX9_signOf_8 : decode cX9_signOf 8 = .ok (.iload_n 1, 1) := by decide +kernel
theorem dX9_signOf_9 : decode cX9_signOf 9 = .ok (.iaload, 1) := by decide +kernel
theorem dX9_signOf_10 : decode cX9_signOf 10 = .ok (.if_icmp .ge 20, 3) := by decide +kernel
theorem dX9_signOf_13 : decode cX9_signOf 13 = .ok (.aload_n 0, 1) := by decide +kernel
theorem dX9_signOf_14 : decode cX9_signOf 14 = .ok (.getfield 123, 3) := by decide +kernel
theorem dX9_signOf_17 : decode cX9_signOf 17 = .ok (.bipush 60, 2) := by decide +kernel
theorem dX9_signOf_19 : decode cX9_signOf 19 = .ok (.iload_n 1, 1) := by decide +kernel
theorem dX9_signOf_20 : decode cX9_signOf 20 = .ok (.imul, 1) := by decide +kernel
theorem dX9_signOf_21 : decode cX9_signOf 21 = .ok (.aload_n 0, 1) := by decide +kernel
theorem dX9_signOf_22 : decode cX9_signOf 22 = .ok (.getfield 304, 3) := by decide +kernel
theorem dX9_signOf_25 : decode cX9_signOf 25 = .ok (.iadd, 1) := by decide +kernel
theorem dX9_signOf_26 : decode cX9_signOf 26 = .ok (.iaload, 1) := by decide +kernel
theorem dX9_signOf_27 : decode cX9_signOf 27 = .ok (.goto 4, 3) := by decide +kernel
theorem dX9_signOf_30 : decode cX9_signOf 30 = .ok (.iconst (-1), 1) := by decide +kernel
theorem dX9_signOf_31 : decode cX9_signOf 31 = .ok (.ireturn, 1) := by decide +kernel
theorem dX9_unitOf_0 : decode cX9_unitOf 0 = .ok (.aload_n 0, 1) := by decide +kernel
theorem dX9_unitOf_1 : decode cX9_unitOf 1 = .ok (.iload_n 1, 1) := by decide +kernel
theorem dX9_unitOf_2 : decode cX9_unitOf 2 = .ok (.invokevirtual 307, 3) := by decide +kernel
theorem dX9_unitOf_5 : decode cX9_unitOf 5 = .ok (.invokestatic 285, 3) := by decide +kernel
theorem dX9_unitOf_8 : decode cX9_unitOf 8 = .ok (.ifCond .ne 35, 3) := by decide +kernel
theorem dX9_unitOf_11 : decode cX9_unitOf 11 = .ok (.aload_n 0, 1) := by decide +kernel
theorem dX9_unitOf_12 : decode cX9_unitOf 12 = .ok (.dup, 1) := by decide +kernel
theorem dX9_unitOf_13 : decode cX9_unitOf 13 = .ok (.getfield 304, 3) := by decide +kernel
theorem dX9_unitOf_16 : decode cX9_unitOf 16 = .ok (.iconst 1, 1) := by decide +kernel
theorem dX9_unitOf_17 : decode cX9_unitOf 17 = .ok (.iadd, 1) := by decide +kernel
theorem dX9_unitOf_18 : decode cX9_unitOf 18 = .ok (.putfield 304, 3) := by decide +kernel
theorem dX9_unitOf_21 : decode cX9_unitOf 21 = .ok (.aload_n 0, 1) := by decide +kernel
theorem dX9_unitOf_22 : decode cX9_unitOf 22 = .ok (.getfield 138, 3) := by decide +kernel
theorem dX9_unitOf_25 : decode cX9_unitOf 25 = .ok (.aload_n 0, 1) := by decide +kernel
theorem dX9_unitOf_26 : decode cX9_unitOf 26 = .ok (.getfield 123, 3) := by decide +kernel
theorem dX9_unitOf_29 : decode cX9_unitOf 29 = .ok (.bipush 60, 2) := by decide +kernel
theorem dX9_unitOf_31 : decode cX9_unitOf 31 = .ok (.iload_n 1, 1) := by decide +kernel
theorem dX9_unitOf_32 : decode cX9_unitOf 32 = .ok (.imul, 1) := by decide +kernel
theorem dX9_unitOf_33 : decode cX9_unitOf 33 = .ok (.aload_n 0, 1) := by decide +kernel
theorem dX9_unitOf_34 : decode cX9_unitOf 34 = .ok (.getfield 304, 3) := by decide +kernel
theorem dX9_unitOf_37 : decode cX9_unitOf 37 = .ok (.iadd, 1) := by decide +kernel
theorem dX9_unitOf_38 : decode cX9_unitOf 38 = .ok (.iconst 1, 1) := by decide +kernel
theorem dX9_unitOf_39 : decode cX9_unitOf 39 = .ok (.isub, 1) := by decide +kernel
theorem dX9_unitOf_40 : decode cX9_unitOf 40 = .ok (.iaload, 1) := by decide +kernel
theorem dX9_unitOf_41 : decode cX9_unitOf 41 = .ok (.iaload, 1) := by decide +kernel
theorem dX9_unitOf_42 : decode cX9_unitOf 42 = .ok (.ireturn, 1) := by decide +kernel
theorem dX9_unitOf_43 : decode cX9_unitOf 43 = .ok (.iconst 0, 1) := by decide +kernel
theorem dX9_unitOf_44 : decode cX9_unitOf 44 = .ok (.istore_n 2, 1) := by decide +kernel
theorem dX9_unitOf_45 : decode cX9_unitOf 45 = .ok (.aload_n 0, 1) := by decide +kernel
theorem dX9_unitOf_46 : decode cX9_unitOf 46 = .ok (.iload_n 1, 1) := by decide +kernel
theorem dX9_unitOf_47 : decode cX9_unitOf 47 = .ok (.invokevirtual 307, 3) := by decide +kernel
theorem dX9_unitOf_50 : decode cX9_unitOf 50 = .ok (.invokestatic 285, 3) := by decide +kernel
theorem dX9_unitOf_53 : decode cX9_unitOf 53 = .ok (.ifCond .eq 30, 3) := by decide +kernel
theorem dX9_unitOf_56 : decode cX9_unitOf 56 = .ok (.bipush 10, 2) := by decide +kernel
theorem dX9_unitOf_58 : decode cX9_unitOf 58 = .ok (.iload_n 2, 1) := by decide +kernel
theorem dX9_unitOf_59 : decode cX9_unitOf 59 = .ok (.imul, 1) := by decide +kernel
theorem dX9_unitOf_60 : decode cX9_unitOf 60 = .ok (.aload_n 0, 1) := by decide +kernel
theorem dX9_unitOf_61 : decode cX9_unitOf 61 = .ok (.iload_n 1, 1) := by decide +kernel
theorem dX9_unitOf_62 : decode cX9_unitOf 62 = .ok (.invokevirtual 307, 3) := by decide +kernel
theorem dX9_unitOf_65 : decode cX9_unitOf 65 = .ok (.iadd, 1) := by decide +kernel
theorem dX9_unitOf_66 : decode cX9_unitOf 66 = .ok (.bipush 48, 2) := by decide +kernel
theorem dX9_unitOf_68 : decode cX9_unitOf 68 = .ok (.isub, 1) := by decide +kernel
theorem dX9_unitOf_69 : decode cX9_unitOf 69 = .ok (.istore_n 2, 1) := by decide +kernel
theorem dX9_unitOf_70 : decode cX9_unitOf 70 = .ok (.aload_n 0, 1) := by decide +kernel
theorem dX9_unitOf_71 : decode cX9_unitOf 71 = .ok (.dup, 1) := by decide +kernel
theorem dX9_unitOf_72 : decode cX9_unitOf 72 = .ok (.getfield 304, 3) := by decide +kernel
theorem dX9_unitOf_75 : decode cX9_unitOf 75 = .ok (.iconst 1, 1) := by decide +kernel
theorem dX9_unitOf_76 : decode cX9_unitOf 76 = .ok (.iadd, 1) := by decide +kernel
theorem dX9_unitOf_77 : decode cX9_unitOf 77 = .ok (.putfield 304, 3) := by decide +kernel
theorem dX9_unitOf_80 : decode cX9_unitOf 80 = .ok (.goto (-35), 3) := by decide +kernel
theorem dX9_unitOf_83 : decode cX9_unitOf 83 = .ok (.iload_n 2, 1) := by decide +kernel
theorem dX9_unitOf_84 : decode cX9_unitOf 84 = .ok (.ireturn, 1) := by decide +kernel
theorem dX9_works_0 : decode cX9_works 0 = .ok (.aload_n 0, 1) := by decide +kernel
theorem dX9_works_1 : decode cX9_works 1 = .ok (.getfield 310, 3) := by decide +kernel
theorem dX9_works_4 : decode cX9_works 4 = .ok (.ifCond .le 143, 3) := by decide +kernel
theorem dX9_works_7 : decode cX9_works 7 = .ok (.aload_n 0, 1) := by decide +kernel
theorem dX9_works_8 : decode cX9_works 8 = .ok (.getfield 141, 3) := by decide +kernel
theorem dX9_works_11 : decode cX9_works 11 = .ok (.aload_n 0, 1) := by decide +kernel
theorem dX9_works_12 : decode cX9_works 12 = .ok (.getfield 310, 3) := by decide +kernel
theorem dX9_works_15 : decode cX9_works 15 = .ok (.iconst 1, 1) := by decide +kernel
theorem dX9_works_16 : decode cX9_works 16 = .ok (.isub, 1) := by decide +kernel
theorem dX9_works_17 : decode cX9_works 17 = .ok (.iaload, 1) := by decide +kernel
theorem dX9_works_18 : decode cX9_works 18 = .ok (.iload_n 1, 1) := by decide +kernel
theorem dX9_works_19 : decode cX9_works 19 = .ok (.if_icmp .gt 128, 3) := by decide +kernel
theorem dX9_works_22 : decode cX9_works 22 = .ok (.aload_n 0, 1) := by decide +kernel
theorem dX9_works_23 : decode cX9_works 23 = .ok (.dup, 1) := by decide +kernel
theorem dX9_works_24 : decode cX9_works 24 = .ok (.getfield 310, 3) := by decide +kernel
theorem dX9_works_27 : decode cX9_works 27 = .ok (.iconst 1, 1) := by decide +kernel
theorem dX9_works_28 : decode cX9_works 28 = .ok (.isub, 1) := by decide +kernel
theorem dX9_works_29 : decode cX9_works 29 = .ok (.putfield 310, 3) := by decide +kernel
theorem dX9_works_32 : decode cX9_works 32 = .ok (.aload_n 0, 1) := by decide +kernel
theorem dX9_works_33 : decode cX9_works 33 = .ok (.getfield 141, 3) := by decide +kernel
theorem dX9_works_36 : decode cX9_works 36 = .ok (.aload_n 0, 1) := by decide +kernel
theorem dX9_works_37 : decode cX9_works 37 = .ok (.getfield 310, 3) := by decide +kernel
theorem dX9_works_40 : decode cX9_works 40 = .ok (.iaload, 1) := by decide +kernel
theorem dX9_works_41 : decode cX9_works 41 = .ok (.istore_n 2, 1) := by decide +kernel
theorem dX9_works_42 : decode cX9_works 42 = .ok (.iload_n 2, 1) := by decide +kernel
theorem dX9_works_43 : decode cX9_works 43 = .ok (.ifCond .ne 30, 3) := by decide +kernel
theorem dX9_works_46 : decode cX9_works 46 = .ok (.aload_n 0, 1) := by decide +kernel
theorem dX9_works_47 : decode cX9_works 47 = .ok (.getfield 144, 3) := by decide +kernel
theorem dX9_works_50 : decode cX9_works 50 = .ok (.aload_n 0, 1) := by decide +kernel
theorem dX9_works_51 : decode cX9_works 51 = .ok (.getfield 313, 3) := by decide +kernel
theorem dX9_works_54 : decode cX9_works 54 = .ok (.iconst 1, 1) := by decide +kernel
theorem dX9_works_55 : decode cX9_works 55 = .ok (.isub, 1) := by decide +kernel
theorem dX9_works_56 : decode cX9_works 56 = .ok (.iconst 1, 1) := by decide +kernel
theorem dX9_works_57 : decode cX9_works 57 = .ok (.aload_n 0, 1) := by decide +kernel
theorem dX9_works_58 : decode cX9_works 58 = .ok (.getfield 144, 3) := by decide +kernel
theorem dX9_works_61 : decode cX9_works 61 = .ok (.aload_n 0, 1) := by decide +kernel
theorem dX9_works_62 : decode cX9_works 62 = .ok (.getfield 313, 3) := by decide +kernel
theorem dX9_works_65 : decode cX9_works 65 = .ok (.iconst 1, 1) := by decide +kernel
theorem dX9_works_66 : decode cX9_works 66 = .ok (.isub, 1) := by decide +kernel
theorem dX9_works_67 : decode cX9_works 67 = .ok (.iaload, 1) := by decide +kernel
theorem dX9_works_68 : decode cX9_works 68 = .ok (.isub, 1) := by decide +kernel
theorem dX9_works_69 : decode cX9_works 69 = .ok (.iastore, 1) := by decide +kernel
theorem dX9_works_70 : decode cX9_works 70 = .ok (.goto 74, 3) := by decide +kernel
theorem dX9_works_73 : decode cX9_works 73 = .ok (.aload_n 0, 1) := by decide +kernel
theorem dX9_works_74 : decode cX9_works 74 = .ok (.dup, 1) := by decide +kernel
theorem dX9_works_75 : decode cX9_works 75 = .ok (.getfield 313, 3) := by decide +kernel
theorem dX9_works_78 : decode cX9_works 78 = .ok (.iconst 1, 1) := by decide +kernel
theorem dX9_works_79 : decode cX9_works 79 = .ok (.isub, 1) := by decide +kernel
theorem dX9_works_80 : decode cX9_works 80 = .ok (.putfield 313, 3) := by decide +kernel
theorem dX9_works_83 : decode cX9_works 83 = .ok (.aload_n 0, 1) := by decide +kernel
theorem dX9_works_84 : decode cX9_works 84 = .ok (.getfield 144, 3) := by decide +kernel
theorem dX9_works_87 : decode cX9_works 87 = .ok (.aload_n 0, 1) := by decide +kernel
theorem dX9_works_88 : decode cX9_works 88 = .ok (.getfield 313, 3) := by decide +kernel
theorem dX9_works_91 : decode cX9_works 91 = .ok (.iconst 1, 1) := by decide +kernel
theorem dX9_works_92 : decode cX9_works 92 = .ok (.isub, 1) := by decide +kernel
theorem dX9_works_93 : decode cX9_works 93 = .ok (.iload_n 2, 1) := by decide +kernel
theorem dX9_works_94 : decode cX9_works 94 = .ok (.iconst 1, 1) := by decide +kernel
theorem dX9_works_95 : decode cX9_works 95 = .ok (.if_icmp .ne 27, 3) := by decide +kernel
theorem dX9_works_98 : decode cX9_works 98 = .ok (.aload_n 0, 1) := by decide +kernel
theorem dX9_works_99 : decode cX9_works 99 = .ok (.getfield 144, 3) := by decide +kernel
theorem dX9_works_102 : decode cX9_works 102 = .ok (.aload_n 0, 1) := by decide +kernel
theorem dX9_works_103 : decode cX9_works 103 = .ok (.getfield 313, 3) := by decide +kernel
theorem dX9_works_106 : decode cX9_works 106 = .ok (.iconst 1, 1) := by decide +kernel
theorem dX9_works_107 : decode cX9_works 107 = .ok (.isub, 1) := by decide +kernel
theorem dX9_works_108 : decode cX9_works 108 = .ok (.iaload, 1) := by decide +kernel
theorem dX9_works_109 : decode cX9_works 109 = .ok (.aload_n 0, 1) := by decide +kernel
theorem dX9_works_110 : decode cX9_works 110 = .ok (.getfield 144, 3) := by decide +kernel
theorem dX9_works_113 : decode cX9_works 113 = .ok (.aload_n 0, 1) := by decide +kernel
theorem dX9_works_114 : decode cX9_works 114 = .ok (.getfield 313, 3) := by decide +kernel
theorem dX9_works_117 : decode cX9_works 117 = .ok (.iaload, 1) := by decide +kernel
theorem dX9_works_118 : decode cX9_works 118 = .ok (.iand, 1) := by decide +kernel
theorem dX9_works_119 : decode cX9_works 119 = .ok (.goto 24, 3) := by decide +kernel
theorem dX9_works_122 : decode cX9_works 122 = .ok (.aload_n 0, 1) := by decide +kernel
theorem dX9_works_123 : decode cX9_works 123 = .ok (.getfield 144, 3) := by decide +kernel
theorem dX9_works_126 : decode cX9_works 126 = .ok (.aload_n 0, 1) := by decide +kernel
theorem dX9_works_127 : decode cX9_works 127 = .ok (.getfield 313, 3) := by decide +kernel
theorem dX9_works_130 : decode cX9_works 130 = .ok (.iconst 1, 1) := by decide +kernel
theorem dX9_works_131 : decode cX9_works 131 = .ok (.isub, 1) := by decide +kernel
theorem dX9_works_132 : decode cX9_works 132 = .ok (.iaload, 1) := by decide +kernel
theorem dX9_works_133 : decode cX9_works 133 = .ok (.aload_n 0, 1) := by decide +kernel
theorem dX9_works_134 : decode cX9_works 134 = .ok (.getfield 144, 3) := by decide +kernel
theorem dX9_works_137 : decode cX9_works 137 = .ok (.aload_n 0, 1) := by decide +kernel
theorem dX9_works_138 : decode cX9_works 138 = .ok (.getfield 313, 3) := by decide +kernel
theorem dX9_works_141 : decode cX9_works 141 = .ok (.iaload, 1) := by decide +kernel
theorem dX9_works_142 : decode cX9_works 142 = .ok (.ior, 1) := by decide +kernel
theorem dX9_works_143 : decode cX9_works 143 = .ok (.iastore, 1) := by decide +kernel
theorem dX9_works_144 : decode cX9_works 144 = .ok (.goto (-144), 3) := by decide +kernel
theorem dX9_works_147 : decode cX9_works 147 = .ok (.return_, 1) := by decide +kernel
theorem dX9_waitsFor_0 : decode cX9_waitsFor 0 = .ok (.aload_n 0, 1) := by decide +kernel
theorem dX9_waitsFor_1 : decode cX9_waitsFor 1 = .ok (.getfield 141, 3) := by decide +kernel
theorem dX9_waitsFor_4 : decode cX9_waitsFor 4 = .ok (.aload_n 0, 1) := by decide +kernel
theorem dX9_waitsFor_5 : decode cX9_waitsFor 5 = .ok (.getfield 310, 3) := by decide +kernel
theorem dX9_waitsFor_8 : decode cX9_waitsFor 8 = .ok (.iload_n 1, 1) := by decide +kernel
theorem dX9_waitsFor_9 : decode cX9_waitsFor 9 = .ok (.iastore, 1) := by decide +kernel
theorem dX9_waitsFor_10 : decode cX9_waitsFor 10 = .ok (.aload_n 0, 1) := by decide +kernel
theorem dX9_waitsFor_11 : decode cX9_waitsFor 11 = .ok (.dup, 1) := by decide +kernel
theorem dX9_waitsFor_12 : decode cX9_waitsFor 12 = .ok (.getfield 310, 3) := by decide +kernel
theorem dX9_waitsFor_15 : decode cX9_waitsFor 15 = .ok (.iconst 1, 1) := by decide +kernel
theorem dX9_waitsFor_16 : decode cX9_waitsFor 16 = .ok (.iadd, 1) := by decide +kernel
theorem dX9_waitsFor_17 : decode cX9_waitsFor 17 = .ok (.putfield 310, 3) := by decide +kernel
theorem dX9_waitsFor_20 : decode cX9_waitsFor 20 = .ok (.return_, 1) := by decide +kernel
theorem dX9_holdsText_0 : decode cX9_holdsText 0 = .ok (.aload_n 0, 1) := by decide +kernel
theorem dX9_holdsText_1 : decode cX9_holdsText 1 = .ok (.iconst 0, 1) := by decide +kernel
theorem dX9_holdsText_2 : decode cX9_holdsText 2 = .ok (.putfield 304, 3) := by decide +kernel
theorem dX9_holdsText_5 : decode cX9_holdsText 5 = .ok (.aload_n 0, 1) := by decide +kernel
theorem dX9_holdsText_6 : decode cX9_holdsText 6 = .ok (.iconst 0, 1) := by decide +kernel
theorem dX9_holdsText_7 : decode cX9_holdsText 7 = .ok (.putfield 310, 3) := by decide +kernel
theorem dX9_holdsText_10 : decode cX9_holdsText 10 = .ok (.aload_n 0, 1) := by decide +kernel
theorem dX9_holdsText_11 : decode cX9_holdsText 11 = .ok (.iconst 0, 1) := by decide +kernel
theorem dX9_holdsText_12 : decode cX9_holdsText 12 = .ok (.putfield 313, 3) := by decide +kernel
theorem dX9_holdsText_15 : decode cX9_holdsText 15 = .ok (.aload_n 0, 1) := by decide +kernel
theorem dX9_holdsText_16 : decode cX9_holdsText 16 = .ok (.getfield 304, 3) := by decide +kernel
theorem dX9_holdsText_19 : decode cX9_holdsText 19 = .ok (.aload_n 0, 1) := by decide +kernel
theorem dX9_holdsText_20 : decode cX9_holdsText 20 = .ok (.getfield 126, 3) := by decide +kernel
theorem dX9_holdsText_23 : decode cX9_holdsText 23 = .ok (.iload_n 1, 1) := by decide +kernel
theorem dX9_holdsText_24 : decode cX9_holdsText 24 = .ok (.iaload, 1) := by decide +kernel
theorem dX9_holdsText_25 : decode cX9_holdsText 25 = .ok (.if_icmp .ge 246, 3) := by decide +kernel
theorem dX9_holdsText_28 : decode cX9_holdsText 28 = .ok (.aload_n 0, 1) := by decide +kernel
theorem dX9_holdsText_29 : decode cX9_holdsText 29 = .ok (.iload_n 1, 1) := by decide +kernel
theorem dX9_holdsText_30 : decode cX9_holdsText 30 = .ok (.invokevirtual 307, 3) := by decide +kernel
theorem dX9_holdsText_33 : decode cX9_holdsText 33 = .ok (.bipush 33, 2) := by decide +kernel
theorem dX9_holdsText_35 : decode cX9_holdsText 35 = .ok (.if_icmp .eq 13, 3) := by decide +kernel
theorem dX9_holdsText_38 : decode cX9_holdsText 38 = .ok (.aload_n 0, 1) := by decide +kernel
theorem dX9_holdsText_39 : decode cX9_holdsText 39 = .ok (.iload_n 1, 1) := by decide +kernel
theorem dX9_holdsText_40 : decode cX9_holdsText 40 = .ok (.invokevirtual 307, 3) := by decide +kernel
theorem dX9_holdsText_43 : decode cX9_holdsText 43 = .ok (.bipush 40, 2) := by decide +kernel
theorem dX9_holdsText_45 : decode cX9_holdsText 45 = .ok (.if_icmp .ne 36, 3) := by decide +kernel
theorem dX9_holdsText_48 : decode cX9_holdsText 48 = .ok (.aload_n 0, 1) := by decide +kernel
theorem dX9_holdsText_49 : decode cX9_holdsText 49 = .ok (.aload_n 0, 1) := by decide +kernel
theorem dX9_holdsText_50 : decode cX9_holdsText 50 = .ok (.iload_n 1, 1) := by decide +kernel
theorem dX9_holdsText_51 : decode cX9_holdsText 51 = .ok (.invokevirtual 307, 3) := by decide +kernel
theorem dX9_holdsText_54 : decode cX9_holdsText 54 = .ok (.bipush 33, 2) := by decide +kernel
theorem dX9_holdsText_56 : decode cX9_holdsText 56 = .ok (.if_icmp .ne 7, 3) := by decide +kernel
theorem dX9_holdsText_59 : decode cX9_holdsText 59 = .ok (.iconst 0, 1) := by decide +kernel
theorem dX9_holdsText_60 : decode cX9_holdsText 60 = .ok (.goto 5, 3) := by decide +kernel
theorem dX9_holdsText_63 : decode cX9_holdsText 63 = .ok (.bipush 9, 2) := by decide +kernel
theorem dX9_holdsText_65 : decode cX9_holdsText 65 = .ok (.invokevirtual 316, 3) := by decide +kernel
theorem dX9_holdsText_68 : decode cX9_holdsText 68 = .ok (.aload_n 0, 1) := by decide +kernel
theorem dX9_holdsText_69 : decode cX9_holdsText 69 = .ok (.dup, 1) := by decide +kernel
theorem dX9_holdsText_70 : decode cX9_holdsText 70 = .ok (.getfield 304, 3) := by decide +kernel
theorem dX9_holdsText_73 : decode cX9_holdsText 73 = .ok (.iconst 1, 1) := by decide +kernel
theorem dX9_holdsText_74 : decode cX9_holdsText 74 = .ok (.iadd, 1) := by decide +kernel
theorem dX9_holdsText_75 : decode cX9_holdsText 75 = .ok (.putfield 304, 3) := by decide +kernel
theorem dX9_holdsText_78 : decode cX9_holdsText 78 = .ok (.goto (-50), 3) := by decide +kernel
theorem dX9_holdsText_81 : decode cX9_holdsText 81 = .ok (.aload_n 0, 1) := by decide +kernel
theorem dX9_holdsText_82 : decode cX9_holdsText 82 = .ok (.iload_n 1, 1) := by decide +kernel
theorem dX9_holdsText_83 : decode cX9_holdsText 83 = .ok (.invokevirtual 320, 3) := by decide +kernel
theorem dX9_holdsText_86 : decode cX9_holdsText 86 = .ok (.istore_n 2, 1) := by decide +kernel
theorem dX9_holdsText_87 : decode cX9_holdsText 87 = .ok (.aload_n 0, 1) := by decide +kernel
theorem dX9_holdsText_88 : decode cX9_holdsText 88 = .ok (.iload_n 1, 1) := by decide +kernel
theorem dX9_holdsText_89 : decode cX9_holdsText 89 = .ok (.invokevirtual 307, 3) := by decide +kernel
theorem dX9_holdsText_92 : decode cX9_holdsText 92 = .ok (.istore_n 3, 1) := by decide +kernel
theorem dX9_holdsText_93 : decode cX9_holdsText 93 = .ok (.aload_n 0, 1) := by decide +kernel
theorem dX9_holdsText_94 : decode cX9_holdsText 94 = .ok (.dup, 1) := by decide +kernel
theorem dX9_holdsText_95 : decode cX9_holdsText 95 = .ok (.getfield 304, 3) := by decide +kernel
theorem dX9_holdsText_98 : decode cX9_holdsText 98 = .ok (.iconst 1, 1) := by decide +kernel
theorem dX9_holdsText_99 : decode cX9_holdsText 99 = .ok (.iadd, 1) := by decide +kernel
theorem dX9_holdsText_100 : decode cX9_holdsText 100 = .ok (.putfield 304, 3) := by decide +kernel
theorem dX9_holdsText_103 : decode cX9_holdsText 103 = .ok (.aload_n 0, 1) := by decide +kernel
theorem dX9_holdsText_104 : decode cX9_holdsText 104 = .ok (.iload_n 1, 1) := by decide +kernel
theorem dX9_holdsText_105 : decode cX9_holdsText 105 = .ok (.invokevirtual 320, 3) := by decide +kernel
theorem dX9_holdsText_108 : decode cX9_holdsText 108 = .ok (.istore 4, 2) := by decide +kernel
theorem dX9_holdsText_110 : decode cX9_holdsText 110 = .ok (.aload_n 0, 1) := by decide +kernel
theorem dX9_holdsText_111 : decode cX9_holdsText 111 = .ok (.getfield 144, 3) := by decide +kernel
theorem dX9_holdsText_114 : decode cX9_holdsText 114 = .ok (.aload_n 0, 1) := by decide +kernel
theorem dX9_holdsText_115 : decode cX9_holdsText 115 = .ok (.getfield 313, 3) := by decide +kernel
theorem dX9_holdsText_118 : decode cX9_holdsText 118 = .ok (.iload_n 3, 1) := by decide +kernel
theorem dX9_holdsText_119 : decode cX9_holdsText 119 = .ok (.bipush 60, 2) := by decide +kernel
theorem dX9_holdsText_121 : decode cX9_holdsText 121 = .ok (.if_icmp .ne 12, 3) := by decide +kernel
theorem dX9_holdsText_124 : decode cX9_holdsText 124 = .ok (.iload_n 2, 1) := by decide +kernel
theorem dX9_holdsText_125 : decode cX9_holdsText 125 = .ok (.iload 4, 2) := by decide +kernel
theorem dX9_holdsText_127 : decode cX9_holdsText 127 = .ok (.if_icmp .ge 31, 3) := by decide +kernel
theorem dX9_holdsText_130 : decode cX9_holdsText 130 = .ok (.goto 24, 3) := by decide +kernel
theorem dX9_holdsText_133 : decode cX9_holdsText 133 = .ok (.iload_n 3, 1) := by decide +kernel
theorem dX9_holdsText_134 : decode cX9_holdsText 134 = .ok (.bipush 62, 2) := by decide +kernel
theorem dX9_holdsText_136 : decode cX9_holdsText 136 = .ok (.if_icmp .ne 12, 3) := by decide +kernel
theorem dX9_holdsText_139 : decode cX9_holdsText 139 = .ok (.iload_n 2, 1) := by decide +kernel
theorem dX9_holdsText_140 : decode cX9_holdsText 140 = .ok (.iload 4, 2) := by decide +kernel
theorem dX9_holdsText_142 : decode cX9_holdsText 142 = .ok (.if_icmp .le 16, 3) := by decide +kernel
theorem dX9_holdsText_145 : decode cX9_holdsText 145 = .ok (.goto 9, 3) := by decide +kernel
theorem dX9_holdsText_148 : decode cX9_holdsText 148 = .ok (.iload_n 2, 1) := by decide +kernel
theorem dX9_holdsText_149 : decode cX9_holdsText 149 = .ok (.iload 4, 2) := by decide +kernel
theorem dX9_holdsText_151 : decode cX9_holdsText 151 = .ok (.if_icmp .ne 7, 3) := by decide +kernel
theorem dX9_holdsText_154 : decode cX9_holdsText 154 = .ok (.iconst 1, 1) := by decide +kernel
theorem dX9_holdsText_155 : decode cX9_holdsText 155 = .ok (.goto 4, 3) := by decide +kernel
theorem dX9_holdsText_158 : decode cX9_holdsText 158 = .ok (.iconst 0, 1) := by decide +kernel
theorem dX9_holdsText_159 : decode cX9_holdsText 159 = .ok (.iastore, 1) := by decide +kernel
theorem dX9_holdsText_160 : decode cX9_holdsText 160 = .ok (.aload_n 0, 1) := by decide +kernel
theorem dX9_holdsText_161 : decode cX9_holdsText 161 = .ok (.dup, 1) := by decide +kernel
theorem dX9_holdsText_162 : decode cX9_holdsText 162 = .ok (.getfield 313, 3) := by decide +kernel
theorem dX9_holdsText_165 : decode cX9_holdsText 165 = .ok (.iconst 1, 1) := by decide +kernel
theorem dX9_holdsText_166 : decode cX9_holdsText 166 = .ok (.iadd, 1) := by decide +kernel
theorem dX9_holdsText_167 : decode cX9_holdsText 167 = .ok (.putfield 313, 3) := by decide +kernel
theorem dX9_holdsText_170 : decode cX9_holdsText 170 = .ok (.aload_n 0, 1) := by decide +kernel
theorem dX9_holdsText_171 : decode cX9_holdsText 171 = .ok (.iconst 0, 1) := by decide +kernel
theorem dX9_holdsText_172 : decode cX9_holdsText 172 = .ok (.invokevirtual 323, 3) := by decide +kernel
theorem dX9_holdsText_175 : decode cX9_holdsText 175 = .ok (.aload_n 0, 1) := by decide +kernel
theorem dX9_holdsText_176 : decode cX9_holdsText 176 = .ok (.iload_n 1, 1) := by decide +kernel
theorem dX9_holdsText_177 : decode cX9_holdsText 177 = .ok (.invokevirtual 307, 3) := by decide +kernel
theorem dX9_holdsText_180 : decode cX9_holdsText 180 = .ok (.bipush 41, 2) := by decide +kernel
theorem dX9_holdsText_182 : decode cX9_holdsText 182 = .ok (.if_icmp .ne 36, 3) := by decide +kernel
theorem dX9_holdsText_185 : decode cX9_holdsText 185 = .ok (.aload_n 0, 1) := by decide +kernel
theorem dX9_holdsText_186 : decode cX9_holdsText 186 = .ok (.iconst 2, 1) := by decide +kernel
theorem dX9_holdsText_187 : decode cX9_holdsText 187 = .ok (.invokevirtual 323, 3) := by decide +kernel
theorem dX9_holdsText_190 : decode cX9_holdsText 190 = .ok (.aload_n 0, 1) := by decide +kernel
theorem dX9_holdsText_191 : decode cX9_holdsText 191 = .ok (.dup, 1) := by decide +kernel
theorem dX9_holdsText_192 : decode cX9_holdsText 192 = .ok (.getfield 310, 3) := by decide +kernel
theorem dX9_holdsText_195 : decode cX9_holdsText 195 = .ok (.iconst 1, 1) := by decide +kernel
theorem dX9_holdsText_196 : decode cX9_holdsText 196 = .ok (.isub, 1) := by decide +kernel
theorem dX9_holdsText_197 : decode cX9_holdsText 197 = .ok (.putfield 310, 3) := by decide +kernel
theorem dX9_holdsText_200 : decode cX9_holdsText 200 = .ok (.aload_n 0, 1) := by decide +kernel
theorem dX9_holdsText_201 : decode cX9_holdsText 201 = .ok (.dup, 1) := by decide +kernel
theorem dX9_holdsText_202 : decode cX9_holdsText 202 = .ok (.getfield 304, 3) := by decide +kernel
theorem dX9_holdsText_205 : decode cX9_holdsText 205 = .ok (.iconst 1, 1) := by decide +kernel
theorem dX9_holdsText_206 : decode cX9_holdsText 206 = .ok (.iadd, 1) := by decide +kernel
theorem dX9_holdsText_207 : decode cX9_holdsText 207 = .ok (.putfield 304, 3) := by decide +kernel
theorem dX9_holdsText_210 : decode cX9_holdsText 210 = .ok (.aload_n 0, 1) := by decide +kernel
theorem dX9_holdsText_211 : decode cX9_holdsText 211 = .ok (.iconst 0, 1) := by decide +kernel
theorem dX9_holdsText_212 : decode cX9_holdsText 212 = .ok (.invokevirtual 323, 3) := by decide +kernel
theorem dX9_holdsText_215 : decode cX9_holdsText 215 = .ok (.goto (-40), 3) := by decide +kernel
theorem dX9_holdsText_218 : decode cX9_holdsText 218 = .ok (.aload_n 0, 1) := by decide +kernel
theorem dX9_holdsText_219 : decode cX9_holdsText 219 = .ok (.iload_n 1, 1) := by decide +kernel
theorem dX9_holdsText_220 : decode cX9_holdsText 220 = .ok (.invokevirtual 307, 3) := by decide +kernel
theorem dX9_holdsText_223 : decode cX9_holdsText 223 = .ok (.bipush 38, 2) := by decide +kernel
theorem dX9_holdsText_225 : decode cX9_holdsText 225 = .ok (.if_icmp .ne 13, 3) := by decide +kernel
theorem dX9_holdsText_228 : decode cX9_holdsText 228 = .ok (.aload_n 0, 1) := by decide +kernel
theorem dX9_holdsText_229 : decode cX9_holdsText 229 = .ok (.iconst 1, 1) := by decide +kernel
theorem dX9_holdsText_230 : decode cX9_holdsText 230 = .ok (.invokevirtual 323, 3) := by decide +kernel
theorem dX9_holdsText_233 : decode cX9_holdsText 233 = .ok (.aload_n 0, 1) := by decide +kernel
theorem dX9_holdsText_234 : decode cX9_holdsText 234 = .ok (.iconst 1, 1) := by decide +kernel
theorem dX9_holdsText_235 : decode cX9_holdsText 235 = .ok (.invokevirtual 316, 3) := by decide +kernel
theorem dX9_holdsText_238 : decode cX9_holdsText 238 = .ok (.aload_n 0, 1) := by decide +kernel
theorem dX9_holdsText_239 : decode cX9_holdsText 239 = .ok (.iload_n 1, 1) := by decide +kernel
theorem dX9_holdsText_240 : decode cX9_holdsText 240 = .ok (.invokevirtual 307, 3) := by decide +kernel
theorem dX9_holdsText_243 : decode cX9_holdsText 243 = .ok (.bipush 124, 2) := by decide +kernel
theorem dX9_holdsText_245 : decode cX9_holdsText 245 = .ok (.if_icmp .ne 13, 3) := by decide +kernel
theorem dX9_holdsText_248 : decode cX9_holdsText 248 = .ok (.aload_n 0, 1) := by decide +kernel
theorem dX9_holdsText_249 : decode cX9_holdsText 249 = .ok (.iconst 2, 1) := by decide +kernel
theorem dX9_holdsText_250 : decode cX9_holdsText 250 = .ok (.invokevirtual 323, 3) := by decide +kernel
theorem dX9_holdsText_253 : decode cX9_holdsText 253 = .ok (.aload_n 0, 1) := by decide +kernel
theorem dX9_holdsText_254 : decode cX9_holdsText 254 = .ok (.iconst 2, 1) := by decide +kernel
theorem dX9_holdsText_255 : decode cX9_holdsText 255 = .ok (.invokevirtual 316, 3) := by decide +kernel
theorem dX9_holdsText_258 : decode cX9_holdsText 258 = .ok (.aload_n 0, 1) := by decide +kernel
theorem dX9_holdsText_259 : decode cX9_holdsText 259 = .ok (.dup, 1) := by decide +kernel
theorem dX9_holdsText_260 : decode cX9_holdsText 260 = .ok (.getfield 304, 3) := by decide +kernel
theorem dX9_holdsText_263 : decode cX9_holdsText 263 = .ok (.iconst 1, 1) := by decide +kernel
theorem dX9_holdsText_264 : decode cX9_holdsText 264 = .ok (.iadd, 1) := by decide +kernel
theorem dX9_holdsText_265 : decode cX9_holdsText 265 = .ok (.putfield 304, 3) := by decide +kernel
theorem dX9_holdsText_268 : decode cX9_holdsText 268 = .ok (.goto (-253), 3) := by decide +kernel
theorem dX9_holdsText_271 : decode cX9_holdsText 271 = .ok (.aload_n 0, 1) := by decide +kernel
theorem dX9_holdsText_272 : decode cX9_holdsText 272 = .ok (.iconst 2, 1) := by decide +kernel
theorem dX9_holdsText_273 : decode cX9_holdsText 273 = .ok (.invokevirtual 323, 3) := by decide +kernel
theorem dX9_holdsText_276 : decode cX9_holdsText 276 = .ok (.aload_n 0, 1) := by decide +kernel
theorem dX9_holdsText_277 : decode cX9_holdsText 277 = .ok (.getfield 144, 3) := by decide +kernel
theorem dX9_holdsText_280 : decode cX9_holdsText 280 = .ok (.iconst 0, 1) := by decide +kernel
theorem dX9_holdsText_281 : decode cX9_holdsText 281 = .ok (.iaload, 1) := by decide +kernel
theorem dX9_holdsText_282 : decode cX9_holdsText 282 = .ok (.iconst 1, 1) := by decide +kernel
theorem dX9_holdsText_283 : decode cX9_holdsText 283 = .ok (.if_icmp .ne 7, 3) := by decide +kernel
theorem dX9_holdsText_286 : decode cX9_holdsText 286 = .ok (.iconst 1, 1) := by decide +kernel
theorem dX9_holdsText_287 : decode cX9_holdsText 287 = .ok (.goto 4, 3) := by decide +kernel
theorem dX9_holdsText_290 : decode cX9_holdsText 290 = .ok (.iconst 0, 1) := by decide +kernel
theorem dX9_holdsText_291 : decode cX9_holdsText 291 = .ok (.ireturn, 1) := by decide +kernel
theorem dX9_holdsFor_0 : decode cX9_holdsFor 0 = .ok (.aload_n 0, 1) := by decide +kernel
theorem dX9_holdsFor_1 : decode cX9_holdsFor 1 = .ok (.getfield 95, 3) := by decide +kernel
theorem dX9_holdsFor_4 : decode cX9_holdsFor 4 = .ok (.iload_n 2, 1) := by decide +kernel
theorem dX9_holdsFor_5 : decode cX9_holdsFor 5 = .ok (.iaload, 1) := by decide +kernel
theorem dX9_holdsFor_6 : decode cX9_holdsFor 6 = .ok (.istore 4, 2) := by decide +kernel
theorem dX9_holdsFor_8 : decode cX9_holdsFor 8 = .ok (.bipush (-9), 2) := by decide +kernel
theorem dX9_holdsFor_10 : decode cX9_holdsFor 10 = .ok (.istore 5, 2) := by decide +kernel
theorem dX9_holdsFor_12 : decode cX9_holdsFor 12 = .ok (.iconst 0, 1) := by decide +kernel
theorem dX9_holdsFor_13 : decode cX9_holdsFor 13 = .ok (.istore 6, 2) := by decide +kernel
theorem dX9_holdsFor_15 : decode cX9_holdsFor 15 = .ok (.iload 6, 2) := by decide +kernel
theorem dX9_holdsFor_17 : decode cX9_holdsFor 17 = .ok (.aload_n 0, 1) := by decide +kernel
theorem dX9_holdsFor_18 : decode cX9_holdsFor 18 = .ok (.getfield 298, 3) := by decide +kernel
theorem dX9_holdsFor_21 : decode cX9_holdsFor 21 = .ok (.if_icmp .ge 46, 3) := by decide +kernel
theorem dX9_holdsFor_24 : decode cX9_holdsFor 24 = .ok (.aload_n 0, 1) := by decide +kernel
theorem dX9_holdsFor_25 : decode cX9_holdsFor 25 = .ok (.getfield 129, 3) := by decide +kernel
theorem dX9_holdsFor_28 : decode cX9_holdsFor 28 = .ok (.iload 6, 2) := by decide +kernel
theorem dX9_holdsFor_30 : decode cX9_holdsFor 30 = .ok (.iaload, 1) := by decide +kernel
theorem dX9_holdsFor_31 : decode cX9_holdsFor 31 = .ok (.iload_n 1, 1) := by decide +kernel
theorem dX9_holdsFor_32 : decode cX9_holdsFor 32 = .ok (.if_icmp .ne 25, 3) := by decide +kernel
theorem dX9_holdsFor_35 : decode cX9_holdsFor 35 = .ok (.aload_n 0, 1) := by decide +kernel
theorem dX9_holdsFor_36 : decode cX9_holdsFor 36 = .ok (.aload_n 0, 1) := by decide +kernel
theorem dX9_holdsFor_37 : decode cX9_holdsFor 37 = .ok (.getfield 132, 3) := by decide +kernel
theorem dX9_holdsFor_40 : decode cX9_holdsFor 40 = .ok (.iload 6, 2) := by decide +kernel
theorem dX9_holdsFor_42 : decode cX9_holdsFor 42 = .ok (.iaload, 1) := by decide +kernel
theorem dX9_holdsFor_43 : decode cX9_holdsFor 43 = .ok (.iload 4, 2) := by decide +kernel
theorem dX9_holdsFor_45 : decode cX9_holdsFor 45 = .ok (.iload_n 3, 1) := by decide +kernel
theorem dX9_holdsFor_46 : decode cX9_holdsFor 46 = .ok (.invokevirtual 229, 3) := by decide +kernel
theorem dX9_holdsFor_49 : decode cX9_holdsFor 49 = .ok (.ifCond .eq 8, 3) := by decide +kernel
theorem dX9_holdsFor_52 : decode cX9_holdsFor 52 = .ok (.iload 6, 2) := by decide +kernel
theorem dX9_holdsFor_54 : decode cX9_holdsFor 54 = .ok (.goto 5, 3) := by decide +kernel
theorem dX9_holdsFor_57 : decode cX9_holdsFor 57 = .ok (.iload 5, 2) := by decide +kernel
theorem dX9_holdsFor_59 : decode cX9_holdsFor 59 = .ok (.istore 5, 2) := by decide +kernel
theorem dX9_holdsFor_61 : decode cX9_holdsFor 61 = .ok (.iinc 6 1, 3) := by decide +kernel
theorem dX9_holdsFor_64 : decode cX9_holdsFor 64 = .ok (.goto (-49), 3) := by decide +kernel
theorem dX9_holdsFor_67 : decode cX9_holdsFor 67 = .ok (.iload 5, 2) := by decide +kernel
theorem dX9_holdsFor_69 : decode cX9_holdsFor 69 = .ok (.ifCond .ge 5, 3) := by decide +kernel
theorem dX9_holdsFor_72 : decode cX9_holdsFor 72 = .ok (.iconst 0, 1) := by decide +kernel
theorem dX9_holdsFor_73 : decode cX9_holdsFor 73 = .ok (.ireturn, 1) := by decide +kernel
theorem dX9_holdsFor_74 : decode cX9_holdsFor 74 = .ok (.aload_n 0, 1) := by decide +kernel
theorem dX9_holdsFor_75 : decode cX9_holdsFor 75 = .ok (.getfield 138, 3) := by decide +kernel
theorem dX9_holdsFor_78 : decode cX9_holdsFor 78 = .ok (.bipush 107, 2) := by decide +kernel
theorem dX9_holdsFor_80 : decode cX9_holdsFor 80 = .ok (.aload_n 0, 1) := by decide +kernel
theorem dX9_holdsFor_81 : decode cX9_holdsFor 81 = .ok (.getfield 77, 3) := by decide +kernel
theorem dX9_holdsFor_84 : decode cX9_holdsFor 84 = .ok (.iload_n 2, 1) := by decide +kernel
theorem dX9_holdsFor_85 : decode cX9_holdsFor 85 = .ok (.iaload, 1) := by decide +kernel
theorem dX9_holdsFor_86 : decode cX9_holdsFor 86 = .ok (.iastore, 1) := by decide +kernel
theorem dX9_holdsFor_87 : decode cX9_holdsFor 87 = .ok (.aload_n 0, 1) := by decide +kernel
theorem dX9_holdsFor_88 : decode cX9_holdsFor 88 = .ok (.getfield 138, 3) := by decide +kernel
theorem dX9_holdsFor_91 : decode cX9_holdsFor 91 = .ok (.bipush 119, 2) := by decide +kernel
theorem dX9_holdsFor_93 : decode cX9_holdsFor 93 = .ok (.aload_n 0, 1) := by decide +kernel
theorem dX9_holdsFor_94 : decode cX9_holdsFor 94 = .ok (.getfield 89, 3) := by decide +kernel
theorem dX9_holdsFor_97 : decode cX9_holdsFor 97 = .ok (.iload_n 2, 1) := by decide +kernel
theorem dX9_holdsFor_98 : decode cX9_holdsFor 98 = .ok (.iaload, 1) := by decide +kernel
theorem dX9_holdsFor_99 : decode cX9_holdsFor 99 = .ok (.iastore, 1) := by decide +kernel
theorem dX9_holdsFor_100 : decode cX9_holdsFor 100 = .ok (.aload_n 0, 1) := by decide +kernel
theorem dX9_holdsFor_101 : decode cX9_holdsFor 101 = .ok (.getfield 138, 3) := by decide +kernel
theorem dX9_holdsFor_104 : decode cX9_holdsFor 104 = .ok (.bipush 97, 2) := by decide +kernel
theorem dX9_holdsFor_106 : decode cX9_holdsFor 106 = .ok (.iload_n 3, 1) := by decide +kernel
theorem dX9_holdsFor_107 : decode cX9_holdsFor 107 = .ok (.aload_n 0, 1) := by decide +kernel
theorem dX9_holdsFor_108 : decode cX9_holdsFor 108 = .ok (.getfield 83, 3) := by decide +kernel
theorem dX9_holdsFor_111 : decode cX9_holdsFor 111 = .ok (.iload_n 2, 1) := by decide +kernel
theorem dX9_holdsFor_112 : decode cX9_holdsFor 112 = .ok (.iaload, 1) := by decide +kernel
theorem dX9_holdsFor_113 : decode cX9_holdsFor 113 = .ok (.isub, 1) := by decide +kernel
theorem dX9_holdsFor_114 : decode cX9_holdsFor 114 = .ok (.iastore, 1) := by decide +kernel
theorem dX9_holdsFor_115 : decode cX9_holdsFor 115 = .ok (.aload_n 0, 1) := by decide +kernel
theorem dX9_holdsFor_116 : decode cX9_holdsFor 116 = .ok (.getfield 138, 3) := by decide +kernel
theorem dX9_holdsFor_119 : decode cX9_holdsFor 119 = .ok (.bipush 104, 2) := by decide +kernel
theorem dX9_holdsFor_121 : decode cX9_holdsFor 121 = .ok (.iload_n 3, 1) := by decide +kernel
theorem dX9_holdsFor_122 : decode cX9_holdsFor 122 = .ok (.aload_n 0, 1) := by decide +kernel
theorem dX9_holdsFor_123 : decode cX9_holdsFor 123 = .ok (.getfield 98, 3) := by decide +kernel
theorem dX9_holdsFor_126 : decode cX9_holdsFor 126 = .ok (.iload_n 2, 1) := by decide +kernel
theorem dX9_holdsFor_127 : decode cX9_holdsFor 127 = .ok (.iaload, 1) := by decide +kernel
theorem dX9_holdsFor_128 : decode cX9_holdsFor 128 = .ok (.isub, 1) := by decide +kernel
theorem dX9_holdsFor_129 : decode cX9_holdsFor 129 = .ok (.iastore, 1) := by decide +kernel
theorem dX9_holdsFor_130 : decode cX9_holdsFor 130 = .ok (.aload_n 0, 1) := by decide +kernel
theorem dX9_holdsFor_131 : decode cX9_holdsFor 131 = .ok (.getfield 138, 3) := by decide +kernel
theorem dX9_holdsFor_134 : decode cX9_holdsFor 134 = .ok (.bipush 115, 2) := by decide +kernel
theorem dX9_holdsFor_136 : decode cX9_holdsFor 136 = .ok (.aload_n 0, 1) := by decide +kernel
theorem dX9_holdsFor_137 : decode cX9_holdsFor 137 = .ok (.aload_n 0, 1) := by decide +kernel
theorem dX9_holdsFor_138 : decode cX9_holdsFor 138 = .ok (.getfield 86, 3) := by decide +kernel
theorem dX9_holdsFor_141 : decode cX9_holdsFor 141 = .ok (.iload_n 2, 1) := by decide +kernel
theorem dX9_holdsFor_142 : decode cX9_holdsFor 142 = .ok (.iaload, 1) := by decide +kernel
theorem dX9_holdsFor_143 : decode cX9_holdsFor 143 = .ok (.iload_n 3, 1) := by decide +kernel
theorem dX9_holdsFor_144 : decode cX9_holdsFor 144 = .ok (.iload 4, 2) := by decide +kernel
theorem dX9_holdsFor_146 : decode cX9_holdsFor 146 = .ok (.invokevirtual 252, 3) := by decide +kernel
theorem dX9_holdsFor_149 : decode cX9_holdsFor 149 = .ok (.iastore, 1) := by decide +kernel
theorem dX9_holdsFor_150 : decode cX9_holdsFor 150 = .ok (.aload_n 0, 1) := by decide +kernel
theorem dX9_holdsFor_151 : decode cX9_holdsFor 151 = .ok (.getfield 138, 3) := by decide +kernel
theorem dX9_holdsFor_154 : decode cX9_holdsFor 154 = .ok (.bipush 117, 2) := by decide +kernel
theorem dX9_holdsFor_156 : decode cX9_holdsFor 156 = .ok (.aload_n 0, 1) := by decide +kernel
theorem dX9_holdsFor_157 : decode cX9_holdsFor 157 = .ok (.getfield 59, 3) := by decide +kernel
theorem dX9_holdsFor_160 : decode cX9_holdsFor 160 = .ok (.aload_n 0, 1) := by decide +kernel
theorem dX9_holdsFor_161 : decode cX9_holdsFor 161 = .ok (.getfield 86, 3) := by decide +kernel
theorem dX9_holdsFor_164 : decode cX9_holdsFor 164 = .ok (.iload_n 2, 1) := by decide +kernel
theorem dX9_holdsFor_165 : decode cX9_holdsFor 165 = .ok (.iaload, 1) := by decide +kernel
theorem dX9_holdsFor_166 : decode cX9_holdsFor 166 = .ok (.iaload, 1) := by decide +kernel
theorem dX9_holdsFor_167 : decode cX9_holdsFor 167 = .ok (.iastore, 1) := by decide +kernel
theorem dX9_holdsFor_168 : decode cX9_holdsFor 168 = .ok (.aload_n 0, 1) := by decide +kernel
theorem dX9_holdsFor_169 : decode cX9_holdsFor 169 = .ok (.getfield 138, 3) := by decide +kernel
theorem dX9_holdsFor_172 : decode cX9_holdsFor 172 = .ok (.bipush 111, 2) := by decide +kernel
theorem dX9_holdsFor_174 : decode cX9_holdsFor 174 = .ok (.iload 4, 2) := by decide +kernel
theorem dX9_holdsFor_176 : decode cX9_holdsFor 176 = .ok (.iastore, 1) := by decide +kernel
theorem dX9_holdsFor_177 : decode cX9_holdsFor 177 = .ok (.aload_n 0, 1) := by decide +kernel
theorem dX9_holdsFor_178 : decode cX9_holdsFor 178 = .ok (.getfield 138, 3) := by decide +kernel
theorem dX9_holdsFor_181 : decode cX9_holdsFor 181 = .ok (.bipush 98, 2) := by decide +kernel
theorem dX9_holdsFor_183 : decode cX9_holdsFor 183 = .ok (.aload_n 0, 1) := by decide +kernel
theorem dX9_holdsFor_184 : decode cX9_holdsFor 184 = .ok (.getfield 110, 3) := by decide +kernel
theorem dX9_holdsFor_187 : decode cX9_holdsFor 187 = .ok (.iload_n 2, 1) := by decide +kernel
theorem dX9_holdsFor_188 : decode cX9_holdsFor 188 = .ok (.baload, 1) := by decide +kernel
theorem dX9_holdsFor_189 : decode cX9_holdsFor 189 = .ok (.ifCond .eq 7, 3) := by decide +kernel
theorem dX9_holdsFor_192 : decode cX9_holdsFor 192 = .ok (.iconst 1, 1) := by decide +kernel
theorem dX9_holdsFor_193 : decode cX9_holdsFor 193 = .ok (.goto 4, 3) := by decide +kernel
theorem dX9_holdsFor_196 : decode cX9_holdsFor 196 = .ok (.iconst 0, 1) := by decide +kernel
theorem dX9_holdsFor_197 : decode cX9_holdsFor 197 = .ok (.iastore, 1) := by decide +kernel
theorem dX9_holdsFor_198 : decode cX9_holdsFor 198 = .ok (.aload_n 0, 1) := by decide +kernel
theorem dX9_holdsFor_199 : decode cX9_holdsFor 199 = .ok (.getfield 138, 3) := by decide +kernel
theorem dX9_holdsFor_202 : decode cX9_holdsFor 202 = .ok (.bipush 99, 2) := by decide +kernel
theorem dX9_holdsFor_204 : decode cX9_holdsFor 204 = .ok (.aload_n 0, 1) := by decide +kernel
theorem dX9_holdsFor_205 : decode cX9_holdsFor 205 = .ok (.getfield 104, 3) := by decide +kernel
theorem dX9_holdsFor_208 : decode cX9_holdsFor 208 = .ok (.iload_n 2, 1) := by decide +kernel
theorem dX9_holdsFor_209 : decode cX9_holdsFor 209 = .ok (.iaload, 1) := by decide +kernel
theorem dX9_holdsFor_210 : decode cX9_holdsFor 210 = .ok (.iastore, 1) := by decide +kernel
theorem dX9_holdsFor_211 : decode cX9_holdsFor 211 = .ok (.aload_n 0, 1) := by decide +kernel
theorem dX9_holdsFor_212 : decode cX9_holdsFor 212 = .ok (.iload 5, 2) := by decide +kernel
theorem dX9_holdsFor_214 : decode cX9_holdsFor 214 = .ok (.invokevirtual 326, 3) := by decide +kernel
theorem dX9_holdsFor_217 : decode cX9_holdsFor 217 = .ok (.ireturn, 1) := by decide +kernel
theorem dX9_holds_0 : decode cX9_holds 0 = .ok (.iload_n 1, 1) := by decide +kernel
theorem dX9_holds_1 : decode cX9_holds 1 = .ok (.i2l, 1) := by decide +kernel
theorem dX9_holds_2 : decode cX9_holds 2 = .ok (.lconst 0, 1) := by decide +kernel
theorem dX9_holds_3 : decode cX9_holds 3 = .ok (.ldc2_w 262, 3) := by decide +kernel
theorem dX9_holds_6 : decode cX9_holds 6 = .ok (.invokestatic 203, 3) := by decide +kernel
theorem dX9_holds_9 : decode cX9_holds 9 = .ok (.ifCond .ne 10, 3) := by decide +kernel
theorem dX9_holds_12 : decode cX9_holds 12 = .ok (.aload_n 0, 1) := by decide +kernel
theorem dX9_holds_13 : decode cX9_holds 13 = .ok (.bipush (-2), 2) := by decide +kernel
theorem dX9_holds_15 : decode cX9_holds 15 = .ok (.invokevirtual 192, 3) := by decide +kernel
theorem dX9_holds_18 : decode cX9_holds 18 = .ok (.ireturn, 1) := by decide +kernel
theorem dX9_holds_19 : decode cX9_holds 19 = .ok (.aload_n 0, 1) := by decide +kernel
theorem dX9_holds_20 : decode cX9_holds 20 = .ok (.iload_n 2, 1) := by decide +kernel
theorem dX9_holds_21 : decode cX9_holds 21 = .ok (.invokevirtual 329, 3) := by decide +kernel
theorem dX9_holds_24 : decode cX9_holds 24 = .ok (.ifCond .ne 9, 3) := by decide +kernel
theorem dX9_holds_27 : decode cX9_holds 27 = .ok (.aload_n 0, 1) := by decide +kernel
theorem dX9_holds_28 : decode cX9_holds 28 = .ok (.iconst (-1), 1) := by decide +kernel
theorem dX9_holds_29 : decode cX9_holds 29 = .ok (.invokevirtual 192, 3) := by decide +kernel
theorem dX9_holds_32 : decode cX9_holds 32 = .ok (.ireturn, 1) := by decide +kernel
theorem dX9_holds_33 : decode cX9_holds 33 = .ok (.aload_n 0, 1) := by decide +kernel
theorem dX9_holds_34 : decode cX9_holds 34 = .ok (.getfield 92, 3) := by decide +kernel
theorem dX9_holds_37 : decode cX9_holds 37 = .ok (.iload_n 2, 1) := by decide +kernel
theorem dX9_holds_38 : decode cX9_holds 38 = .ok (.iaload, 1) := by decide +kernel
theorem dX9_holds_39 : decode cX9_holds 39 = .ok (.ifCond .eq 10, 3) := by decide +kernel
theorem dX9_holds_42 : decode cX9_holds 42 = .ok (.aload_n 0, 1) := by decide +kernel
theorem dX9_holds_43 : decode cX9_holds 43 = .ok (.bipush (-3), 2) := by decide +kernel
theorem dX9_holds_45 : decode cX9_holds 45 = .ok (.invokevirtual 192, 3) := by decide +kernel
theorem dX9_holds_48 : decode cX9_holds 48 = .ok (.ireturn, 1) := by decide +kernel
theorem dX9_holds_49 : decode cX9_holds 49 = .ok (.aload_n 0, 1) := by decide +kernel
theorem dX9_holds_50 : decode cX9_holds 50 = .ok (.invokevirtual 214, 3) := by decide +kernel
theorem dX9_holds_53 : decode cX9_holds 53 = .ok (.aload_n 0, 1) := by decide +kernel
theorem dX9_holds_54 : decode cX9_holds 54 = .ok (.iload_n 1, 1) := by decide +kernel
theorem dX9_holds_55 : decode cX9_holds 55 = .ok (.iload_n 2, 1) := by decide +kernel
theorem dX9_holds_56 : decode cX9_holds 56 = .ok (.aload_n 0, 1) := by decide +kernel
theorem dX9_holds_57 : decode cX9_holds 57 = .ok (.getfield 207, 3) := by decide +kernel
theorem dX9_holds_60 : decode cX9_holds 60 = .ok (.invokevirtual 332, 3) := by decide +kernel
theorem dX9_holds_63 : decode cX9_holds 63 = .ok (.ifCond .eq 7, 3) := by decide +kernel
theorem dX9_holds_66 : decode cX9_holds 66 = .ok (.iconst 1, 1) := by decide +kernel
theorem dX9_holds_67 : decode cX9_holds 67 = .ok (.goto 4, 3) := by decide +kernel
theorem dX9_holds_70 : decode cX9_holds 70 = .ok (.iconst 0, 1) := by decide +kernel
theorem dX9_holds_71 : decode cX9_holds 71 = .ok (.ireturn, 1) := by decide +kernel
theorem dX9_keep_0 : decode cX9_keep 0 = .ok (.iload_n 1, 1) := by decide +kernel
theorem dX9_keep_1 : decode cX9_keep 1 = .ok (.i2l, 1) := by decide +kernel
theorem dX9_keep_2 : decode cX9_keep 2 = .ok (.lconst 1, 1) := by decide +kernel
theorem dX9_keep_3 : decode cX9_keep 3 = .ok (.ldc2_w 335, 3) := by decide +kernel
theorem dX9_keep_6 : decode cX9_keep 6 = .ok (.invokestatic 188, 3) := by decide +kernel
theorem dX9_keep_9 : decode cX9_keep 9 = .ok (.istore_n 2, 1) := by decide +kernel
theorem dX9_keep_10 : decode cX9_keep 10 = .ok (.iload_n 2, 1) := by decide +kernel
theorem dX9_keep_11 : decode cX9_keep 11 = .ok (.ifCond .eq 9, 3) := by decide +kernel
theorem dX9_keep_14 : decode cX9_keep 14 = .ok (.aload_n 0, 1) := by decide +kernel
theorem dX9_keep_15 : decode cX9_keep 15 = .ok (.iload_n 2, 1) := by decide +kernel
theorem dX9_keep_16 : decode cX9_keep 16 = .ok (.invokevirtual 192, 3) := by decide +kernel
theorem dX9_keep_19 : decode cX9_keep 19 = .ok (.ireturn, 1) := by decide +kernel
theorem dX9_keep_20 : decode cX9_keep 20 = .ok (.aload_n 0, 1) := by decide +kernel
theorem dX9_keep_21 : decode cX9_keep 21 = .ok (.getfield 116, 3) := by decide +kernel
theorem dX9_keep_24 : decode cX9_keep 24 = .ok (.istore_n 3, 1) := by decide +kernel
theorem dX9_keep_25 : decode cX9_keep 25 = .ok (.aload_n 0, 1) := by decide +kernel
theorem dX9_keep_26 : decode cX9_keep 26 = .ok (.iload_n 1, 1) := by decide +kernel
theorem dX9_keep_27 : decode cX9_keep 27 = .ok (.putfield 116, 3) := by decide +kernel
theorem dX9_keep_30 : decode cX9_keep 30 = .ok (.iload_n 3, 1) := by decide +kernel
theorem dX9_keep_31 : decode cX9_keep 31 = .ok (.ireturn, 1) := by decide +kernel
theorem dX9_goalOf_0 : decode cX9_goalOf 0 = .ok (.aload_n 0, 1) := by decide +kernel
theorem dX9_goalOf_1 : decode cX9_goalOf 1 = .ok (.getfield 110, 3) := by decide +kernel
theorem dX9_goalOf_4 : decode cX9_goalOf 4 = .ok (.iload_n 1, 1) := by decide +kernel
theorem dX9_goalOf_5 : decode cX9_goalOf 5 = .ok (.baload, 1) := by decide +kernel
theorem dX9_goalOf_6 : decode cX9_goalOf 6 = .ok (.ifCond .eq 10, 3) := by decide +kernel
theorem dX9_goalOf_9 : decode cX9_goalOf 9 = .ok (.aload_n 0, 1) := by decide +kernel
theorem dX9_goalOf_10 : decode cX9_goalOf 10 = .ok (.getfield 80, 3) := by decide +kernel
theorem dX9_goalOf_13 : decode cX9_goalOf 13 = .ok (.iload_n 1, 1) := by decide +kernel
theorem dX9_goalOf_14 : decode cX9_goalOf 14 = .ok (.iaload, 1) := by decide +kernel
theorem dX9_goalOf_15 : decode cX9_goalOf 15 = .ok (.ireturn, 1) := by decide +kernel
theorem dX9_goalOf_16 : decode cX9_goalOf 16 = .ok (.aload_n 0, 1) := by decide +kernel
theorem dX9_goalOf_17 : decode cX9_goalOf 17 = .ok (.aload_n 0, 1) := by decide +kernel
theorem dX9_goalOf_18 : decode cX9_goalOf 18 = .ok (.getfield 86, 3) := by decide +kernel
theorem dX9_goalOf_21 : decode cX9_goalOf 21 = .ok (.iload_n 1, 1) := by decide +kernel
theorem dX9_goalOf_22 : decode cX9_goalOf 22 = .ok (.iaload, 1) := by decide +kernel
theorem dX9_goalOf_23 : decode cX9_goalOf 23 = .ok (.iload_n 2, 1) := by decide +kernel
theorem dX9_goalOf_24 : decode cX9_goalOf 24 = .ok (.aload_n 0, 1) := by decide +kernel
theorem dX9_goalOf_25 : decode cX9_goalOf 25 = .ok (.getfield 95, 3) := by decide +kernel
theorem dX9_goalOf_28 : decode cX9_goalOf 28 = .ok (.iload_n 1, 1) := by decide +kernel
theorem dX9_goalOf_29 : decode cX9_goalOf 29 = .ok (.iaload, 1) := by decide +kernel
theorem dX9_goalOf_30 : decode cX9_goalOf 30 = .ok (.invokevirtual 249, 3) := by decide +kernel
theorem dX9_goalOf_33 : decode cX9_goalOf 33 = .ok (.istore_n 3, 1) := by decide +kernel
theorem dX9_goalOf_34 : decode cX9_goalOf 34 = .ok (.iload_n 3, 1) := by decide +kernel
theorem dX9_goalOf_35 : decode cX9_goalOf 35 = .ok (.ifCond .lt 20, 3) := by decide +kernel
theorem dX9_goalOf_38 : decode cX9_goalOf 38 = .ok (.aload_n 0, 1) := by decide +kernel
theorem dX9_goalOf_39 : decode cX9_goalOf 39 = .ok (.getfield 68, 3) := by decide +kernel
theorem dX9_goalOf_42 : decode cX9_goalOf 42 = .ok (.iload_n 3, 1) := by decide +kernel
theorem dX9_goalOf_43 : decode cX9_goalOf 43 = .ok (.iaload, 1) := by decide +kernel
theorem dX9_goalOf_44 : decode cX9_goalOf 44 = .ok (.iconst 1, 1) := by decide +kernel
theorem dX9_goalOf_45 : decode cX9_goalOf 45 = .ok (.if_icmp .ne 10, 3) := by decide +kernel
theorem dX9_goalOf_48 : decode cX9_goalOf 48 = .ok (.aload_n 0, 1) := by decide +kernel
theorem dX9_goalOf_49 : decode cX9_goalOf 49 = .ok (.getfield 71, 3) := by decide +kernel
theorem dX9_goalOf_52 : decode cX9_goalOf 52 = .ok (.iload_n 3, 1) := by decide +kernel
theorem dX9_goalOf_53 : decode cX9_goalOf 53 = .ok (.iaload, 1) := by decide +kernel
theorem dX9_goalOf_54 : decode cX9_goalOf 54 = .ok (.ireturn, 1) := by decide +kernel
theorem dX9_goalOf_55 : decode cX9_goalOf 55 = .ok (.aload_n 0, 1) := by decide +kernel
theorem dX9_goalOf_56 : decode cX9_goalOf 56 = .ok (.aload_n 0, 1) := by decide +kernel
theorem dX9_goalOf_57 : decode cX9_goalOf 57 = .ok (.getfield 59, 3) := by decide +kernel
theorem dX9_goalOf_60 : decode cX9_goalOf 60 = .ok (.aload_n 0, 1) := by decide +kernel
theorem dX9_goalOf_61 : decode cX9_goalOf 61 = .ok (.getfield 86, 3) := by decide +kernel
theorem dX9_goalOf_64 : decode cX9_goalOf 64 = .ok (.iload_n 1, 1) := by decide +kernel
theorem dX9_goalOf_65 : decode cX9_goalOf 65 = .ok (.iaload, 1) := by decide +kernel
theorem dX9_goalOf_66 : decode cX9_goalOf 66 = .ok (.iaload, 1) := by decide +kernel
theorem dX9_goalOf_67 : decode cX9_goalOf 67 = .ok (.iload_n 2, 1) := by decide +kernel
theorem dX9_goalOf_68 : decode cX9_goalOf 68 = .ok (.aload_n 0, 1) := by decide +kernel
theorem dX9_goalOf_69 : decode cX9_goalOf 69 = .ok (.getfield 95, 3) := by decide +kernel
theorem dX9_goalOf_72 : decode cX9_goalOf 72 = .ok (.iload_n 1, 1) := by decide +kernel
theorem dX9_goalOf_73 : decode cX9_goalOf 73 = .ok (.iaload, 1) := by decide +kernel
theorem dX9_goalOf_74 : decode cX9_goalOf 74 = .ok (.invokevirtual 235, 3) := by decide +kernel
theorem dX9_goalOf_77 : decode cX9_goalOf 77 = .ok (.ireturn, 1) := by decide +kernel
theorem dX9_wayOn_0 : decode cX9_wayOn 0 = .ok (.iconst 0, 1) := by decide +kernel
theorem dX9_wayOn_1 : decode cX9_wayOn 1 = .ok (.istore_n 3, 1) := by decide +kernel
theorem dX9_wayOn_2 : decode cX9_wayOn 2 = .ok (.iload_n 3, 1) := by decide +kernel
theorem dX9_wayOn_3 : decode cX9_wayOn 3 = .ok (.aload_n 0, 1) := by decide +kernel
theorem dX9_wayOn_4 : decode cX9_wayOn 4 = .ok (.getfield 200, 3) := by decide +kernel
theorem dX9_wayOn_7 : decode cX9_wayOn 7 = .ok (.if_icmp .ge 119, 3) := by decide +kernel
theorem dX9_wayOn_10 : decode cX9_wayOn 10 = .ok (.iload_n 2, 1) := by decide +kernel
theorem dX9_wayOn_11 : decode cX9_wayOn 11 = .ok (.ifCond .lt 115, 3) := by decide +kernel
theorem dX9_wayOn_14 : decode cX9_wayOn 14 = .ok (.iload_n 2, 1) := by decide +kernel
theorem dX9_wayOn_15 : decode cX9_wayOn 15 = .ok (.iload_n 1, 1) := by decide +kernel
theorem dX9_wayOn_16 : decode cX9_wayOn 16 = .ok (.if_icmp .eq 110, 3) := by decide +kernel
theorem dX9_wayOn_19 : decode cX9_wayOn 19 = .ok (.aload_n 0, 1) := by decide +kernel
theorem dX9_wayOn_20 : decode cX9_wayOn 20 = .ok (.getfield 16, 3) := by decide +kernel
theorem dX9_wayOn_23 : decode cX9_wayOn 23 = .ok (.iload_n 3, 1) := by decide +kernel
theorem dX9_wayOn_24 : decode cX9_wayOn 24 = .ok (.iaload, 1) := by decide +kernel
theorem dX9_wayOn_25 : decode cX9_wayOn 25 = .ok (.iload_n 1, 1) := by decide +kernel
theorem dX9_wayOn_26 : decode cX9_wayOn 26 = .ok (.if_icmp .eq 16, 3) := by decide +kernel
theorem dX9_wayOn_29 : decode cX9_wayOn 29 = .ok (.aload_n 0, 1) := by decide +kernel
theorem dX9_wayOn_30 : decode cX9_wayOn 30 = .ok (.getfield 19, 3) := by decide +kernel
theorem dX9_wayOn_33 : decode cX9_wayOn 33 = .ok (.iload_n 3, 1) := by decide +kernel
theorem dX9_wayOn_34 : decode cX9_wayOn 34 = .ok (.iaload, 1) := by decide +kernel
theorem dX9_wayOn_35 : decode cX9_wayOn 35 = .ok (.iload_n 1, 1) := by decide +kernel
theorem dX9_wayOn_36 : decode cX9_wayOn 36 = .ok (.if_icmp .eq 6, 3) := by decide +kernel
theorem dX9_wayOn_39 : decode cX9_wayOn 39 = .ok (.goto 81, 3) := by decide +kernel
theorem dX9_wayOn_42 : decode cX9_wayOn 42 = .ok (.aload_n 0, 1) := by decide +kernel
theorem dX9_wayOn_43 : decode cX9_wayOn 43 = .ok (.getfield 16, 3) := by decide +kernel
theorem dX9_wayOn_46 : decode cX9_wayOn 46 = .ok (.iload_n 3, 1) := by decide +kernel
theorem dX9_wayOn_47 : decode cX9_wayOn 47 = .ok (.iaload, 1) := by decide +kernel
theorem dX9_wayOn_48 : decode cX9_wayOn 48 = .ok (.iload_n 1, 1) := by decide +kernel
theorem dX9_wayOn_49 : decode cX9_wayOn 49 = .ok (.if_icmp .ne 12, 3) := by decide +kernel
theorem dX9_wayOn_52 : decode cX9_wayOn 52 = .ok (.aload_n 0, 1) := by decide +kernel
theorem dX9_wayOn_53 : decode cX9_wayOn 53 = .ok (.getfield 19, 3) := by decide +kernel
theorem dX9_wayOn_56 : decode cX9_wayOn 56 = .ok (.iload_n 3, 1) := by decide +kernel
theorem dX9_wayOn_57 : decode cX9_wayOn 57 = .ok (.iaload, 1) := by decide +kernel
theorem dX9_wayOn_58 : decode cX9_wayOn 58 = .ok (.goto 9, 3) := by decide +kernel
theorem dX9_wayOn_61 : decode cX9_wayOn 61 = .ok (.aload_n 0, 1) := by decide +kernel
theorem dX9_wayOn_62 : decode cX9_wayOn 62 = .ok (.getfield 16, 3) := by decide +kernel
theorem dX9_wayOn_65 : decode cX9_wayOn 65 = .ok (.iload_n 3, 1) := by decide +kernel
theorem dX9_wayOn_66 : decode cX9_wayOn 66 = .ok (.iaload, 1) := by decide +kernel
theorem dX9_wayOn_67 : decode cX9_wayOn 67 = .ok (.istore 4, 2) := by decide +kernel
theorem dX9_wayOn_69 : decode cX9_wayOn 69 = .ok (.aload_n 0, 1) := by decide +kernel
theorem dX9_wayOn_70 : decode cX9_wayOn 70 = .ok (.getfield 40, 3) := by decide +kernel
theorem dX9_wayOn_73 : decode cX9_wayOn 73 = .ok (.bipush 12, 2) := by decide +kernel
theorem dX9_wayOn_75 : decode cX9_wayOn 75 = .ok (.iload_n 1, 1) := by decide +kernel
theorem dX9_wayOn_76 : decode cX9_wayOn 76 = .ok (.imul, 1) := by decide +kernel
theorem dX9_wayOn_77 : decode cX9_wayOn 77 = .ok (.iload_n 2, 1) := by decide +kernel
theorem dX9_wayOn_78 : decode cX9_wayOn 78 = .ok (.iadd, 1) := by decide +kernel
theorem dX9_wayOn_79 : decode cX9_wayOn 79 = .ok (.iaload, 1) := by decide +kernel
theorem dX9_wayOn_80 : decode cX9_wayOn 80 = .ok (.ldc 213, 2) := by decide +kernel
theorem dX9_wayOn_82 : decode cX9_wayOn 82 = .ok (.if_icmp .ge 38, 3) := by decide +kernel
theorem dX9_wayOn_85 : decode cX9_wayOn 85 = .ok (.aload_n 0, 1) := by decide +kernel
theorem dX9_wayOn_86 : decode cX9_wayOn 86 = .ok (.getfield 22, 3) := by decide +kernel
theorem dX9_wayOn_89 : decode cX9_wayOn 89 = .ok (.iload_n 3, 1) := by decide +kernel
theorem dX9_wayOn_90 : decode cX9_wayOn 90 = .ok (.iaload, 1) := by decide +kernel
theorem dX9_wayOn_91 : decode cX9_wayOn 91 = .ok (.aload_n 0, 1) := by decide +kernel
theorem dX9_wayOn_92 : decode cX9_wayOn 92 = .ok (.getfield 40, 3) := by decide +kernel
theorem dX9_wayOn_95 : decode cX9_wayOn 95 = .ok (.bipush 12, 2) := by decide +kernel
theorem dX9_wayOn_97 : decode cX9_wayOn 97 = .ok (.iload 4, 2) := by decide +kernel
theorem dX9_wayOn_99 : decode cX9_wayOn 99 = .ok (.imul, 1) := by decide +kernel
theorem dX9_wayOn_100 : decode cX9_wayOn 100 = .ok (.iload_n 2, 1) := by decide +kernel
theorem dX9_wayOn_101 : decode cX9_wayOn 101 = .ok (.iadd, 1) := by decide +kernel
theorem dX9_wayOn_102 : decode cX9_wayOn 102 = .ok (.iaload, 1) := by decide +kernel
theorem dX9_wayOn_103 : decode cX9_wayOn 103 = .ok (.iadd, 1) := by decide +kernel
theorem dX9_wayOn_104 : decode cX9_wayOn 104 = .ok (.aload_n 0, 1) := by decide +kernel
theorem dX9_wayOn_105 : decode cX9_wayOn 105 = .ok (.getfield 40, 3) := by decide +kernel
theorem dX9_wayOn_108 : decode cX9_wayOn 108 = .ok (.bipush 12, 2) := by decide +kernel
theorem dX9_wayOn_110 : decode cX9_wayOn 110 = .ok (.iload_n 1, 1) := by decide +kernel
theorem dX9_wayOn_111 : decode cX9_wayOn 111 = .ok (.imul, 1) := by decide +kernel
theorem dX9_wayOn_112 : decode cX9_wayOn 112 = .ok (.iload_n 2, 1) := by decide +kernel
theorem dX9_wayOn_113 : decode cX9_wayOn 113 = .ok (.iadd, 1) := by decide +kernel
theorem dX9_wayOn_114 : decode cX9_wayOn 114 = .ok (.iaload, 1) := by decide +kernel
theorem dX9_wayOn_115 : decode cX9_wayOn 115 = .ok (.if_icmp .ne 5, 3) := by decide +kernel
theorem dX9_wayOn_118 : decode cX9_wayOn 118 = .ok (.iload_n 3, 1) := by decide +kernel
theorem dX9_wayOn_119 : decode cX9_wayOn 119 = .ok (.ireturn, 1) := by decide +kernel
theorem dX9_wayOn_120 : decode cX9_wayOn 120 = .ok (.iinc 3 1, 3) := by decide +kernel
theorem dX9_wayOn_123 : decode cX9_wayOn 123 = .ok (.goto (-121), 3) := by decide +kernel
theorem dX9_wayOn_126 : decode cX9_wayOn 126 = .ok (.bipush (-9), 2) := by decide +kernel
theorem dX9_wayOn_128 : decode cX9_wayOn 128 = .ok (.ireturn, 1) := by decide +kernel
theorem dX9_ends_0 : decode cX9_ends 0 = .ok (.aload_n 0, 1) := by decide +kernel
theorem dX9_ends_1 : decode cX9_ends 1 = .ok (.getfield 92, 3) := by decide +kernel
theorem dX9_ends_4 : decode cX9_ends 4 = .ok (.iload_n 1, 1) := by decide +kernel
theorem dX9_ends_5 : decode cX9_ends 5 = .ok (.iload_n 2, 1) := by decide +kernel
theorem dX9_ends_6 : decode cX9_ends 6 = .ok (.iastore, 1) := by decide +kernel
theorem dX9_ends_7 : decode cX9_ends 7 = .ok (.aload_n 0, 1) := by decide +kernel
theorem dX9_ends_8 : decode cX9_ends 8 = .ok (.getfield 98, 3) := by decide +kernel
theorem dX9_ends_11 : decode cX9_ends 11 = .ok (.iload_n 1, 1) := by decide +kernel
theorem dX9_ends_12 : decode cX9_ends 12 = .ok (.iload_n 3, 1) := by decide +kernel
theorem dX9_ends_13 : decode cX9_ends 13 = .ok (.iastore, 1) := by decide +kernel
theorem dX9_ends_14 : decode cX9_ends 14 = .ok (.iload_n 2, 1) := by decide +kernel
theorem dX9_ends_15 : decode cX9_ends 15 = .ok (.iconst 2, 1) := by decide +kernel
theorem dX9_ends_16 : decode cX9_ends 16 = .ok (.if_icmp .ne 37, 3) := by decide +kernel
theorem dX9_ends_19 : decode cX9_ends 19 = .ok (.aload_n 0, 1) := by decide +kernel
theorem dX9_ends_20 : decode cX9_ends 20 = .ok (.getfield 77, 3) := by decide +kernel
theorem dX9_ends_23 : decode cX9_ends 23 = .ok (.iload_n 1, 1) := by decide +kernel
theorem dX9_ends_24 : decode cX9_ends 24 = .ok (.iaload, 1) := by decide +kernel
theorem dX9_ends_25 : decode cX9_ends 25 = .ok (.iconst 1, 1) := by decide +kernel
theorem dX9_ends_26 : decode cX9_ends 26 = .ok (.if_icmp .ne 27, 3) := by decide +kernel
theorem dX9_ends_29 : decode cX9_ends 29 = .ok (.iload_n 3, 1) := by decide +kernel
theorem dX9_ends_30 : decode cX9_ends 30 = .ok (.aload_n 0, 1) := by decide +kernel
theorem dX9_ends_31 : decode cX9_ends 31 = .ok (.getfield 83, 3) := by decide +kernel
theorem dX9_ends_34 : decode cX9_ends 34 = .ok (.iload_n 1, 1) := by decide +kernel
theorem dX9_ends_35 : decode cX9_ends 35 = .ok (.iaload, 1) := by decide +kernel
theorem dX9_ends_36 : decode cX9_ends 36 = .ok (.isub, 1) := by decide +kernel
theorem dX9_ends_37 : decode cX9_ends 37 = .ok (.aload_n 0, 1) := by decide +kernel
theorem dX9_ends_38 : decode cX9_ends 38 = .ok (.getfield 89, 3) := by decide +kernel
theorem dX9_ends_41 : decode cX9_ends 41 = .ok (.iload_n 1, 1) := by decide +kernel
theorem dX9_ends_42 : decode cX9_ends 42 = .ok (.iaload, 1) := by decide +kernel
theorem dX9_ends_43 : decode cX9_ends 43 = .ok (.if_icmp .le 10, 3) := by decide +kernel
theorem dX9_ends_46 : decode cX9_ends 46 = .ok (.aload_n 0, 1) := by decide +kernel
theorem dX9_ends_47 : decode cX9_ends 47 = .ok (.getfield 113, 3) := by decide +kernel
theorem dX9_ends_50 : decode cX9_ends 50 = .ok (.iload_n 1, 1) := by decide +kernel
theorem dX9_ends_51 : decode cX9_ends 51 = .ok (.iconst 1, 1) := by decide +kernel
theorem dX9_ends_52 : decode cX9_ends 52 = .ok (.bastore, 1) := by decide +kernel
theorem dX9_ends_53 : decode cX9_ends 53 = .ok (.return_, 1) := by decide +kernel
theorem dX9_turns_0 : decode cX9_turns 0 = .ok (.aload_n 0, 1) := by decide +kernel
theorem dX9_turns_1 : decode cX9_turns 1 = .ok (.getfield 110, 3) := by decide +kernel
theorem dX9_turns_4 : decode cX9_turns 4 = .ok (.iload_n 1, 1) := by decide +kernel
theorem dX9_turns_5 : decode cX9_turns 5 = .ok (.iconst 1, 1) := by decide +kernel
theorem dX9_turns_6 : decode cX9_turns 6 = .ok (.bastore, 1) := by decide +kernel
theorem dX9_turns_7 : decode cX9_turns 7 = .ok (.aload_n 0, 1) := by decide +kernel
theorem dX9_turns_8 : decode cX9_turns 8 = .ok (.getfield 101, 3) := by decide +kernel
theorem dX9_turns_11 : decode cX9_turns 11 = .ok (.iload_n 1, 1) := by decide +kernel
theorem dX9_turns_12 : decode cX9_turns 12 = .ok (.iload_n 2, 1) := by decide +kernel
theorem dX9_turns_13 : decode cX9_turns 13 = .ok (.iastore, 1) := by decide +kernel
theorem dX9_turns_14 : decode cX9_turns 14 = .ok (.return_, 1) := by decide +kernel
theorem dX9_sees_0 : decode cX9_sees 0 = .ok (.aload_n 0, 1) := by decide +kernel
theorem dX9_sees_1 : decode cX9_sees 1 = .ok (.getfield 95, 3) := by decide +kernel
theorem dX9_sees_4 : decode cX9_sees 4 = .ok (.iload_n 1, 1) := by decide +kernel
theorem dX9_sees_5 : decode cX9_sees 5 = .ok (.iaload, 1) := by decide +kernel
theorem dX9_sees_6 : decode cX9_sees 6 = .ok (.istore_n 3, 1) := by decide +kernel
theorem dX9_sees_7 : decode cX9_sees 7 = .ok (.aload_n 0, 1) := by decide +kernel
theorem dX9_sees_8 : decode cX9_sees 8 = .ok (.iconst 0, 1) := by decide +kernel
theorem dX9_sees_9 : decode cX9_sees 9 = .ok (.iload_n 1, 1) := by decide +kernel
theorem dX9_sees_10 : decode cX9_sees 10 = .ok (.iload_n 2, 1) := by decide +kernel
theorem dX9_sees_11 : decode cX9_sees 11 = .ok (.invokevirtual 332, 3) := by decide +kernel
theorem dX9_sees_14 : decode cX9_sees 14 = .ok (.ifCond .eq 11, 3) := by decide +kernel
theorem dX9_sees_17 : decode cX9_sees 17 = .ok (.aload_n 0, 1) := by decide +kernel
theorem dX9_sees_18 : decode cX9_sees 18 = .ok (.iload_n 1, 1) := by decide +kernel
theorem dX9_sees_19 : decode cX9_sees 19 = .ok (.iconst 4, 1) := by decide +kernel
theorem dX9_sees_20 : decode cX9_sees 20 = .ok (.iload_n 2, 1) := by decide +kernel
theorem dX9_sees_21 : decode cX9_sees 21 = .ok (.invokevirtual 337, 3) := by decide +kernel
theorem dX9_sees_24 : decode cX9_sees 24 = .ok (.return_, 1) := by decide +kernel
theorem dX9_sees_25 : decode cX9_sees 25 = .ok (.aload_n 0, 1) := by decide +kernel
theorem dX9_sees_26 : decode cX9_sees 26 = .ok (.iconst 1, 1) := by decide +kernel
theorem dX9_sees_27 : decode cX9_sees 27 = .ok (.iload_n 1, 1) := by decide +kernel
theorem dX9_sees_28 : decode cX9_sees 28 = .ok (.iload_n 2, 1) := by decide +kernel
theorem dX9_sees_29 : decode cX9_sees 29 = .ok (.invokevirtual 332, 3) := by decide +kernel
theorem dX9_sees_32 : decode cX9_sees 32 = .ok (.ifCond .eq 4, 3) := by decide +kernel
theorem dX9_sees_35 : decode cX9_sees 35 = .ok (.return_, 1) := by decide +kernel
theorem dX9_sees_36 : decode cX9_sees 36 = .ok (.aload_n 0, 1) := by decide +kernel
theorem dX9_sees_37 : decode cX9_sees 37 = .ok (.getfield 110, 3) := by decide +kernel
theorem dX9_sees_40 : decode cX9_sees 40 = .ok (.iload_n 1, 1) := by decide +kernel
theorem dX9_sees_41 : decode cX9_sees 41 = .ok (.baload, 1) := by decide +kernel
theorem dX9_sees_42 : decode cX9_sees 42 = .ok (.ifCond .ne 19, 3) := by decide +kernel
theorem dX9_sees_45 : decode cX9_sees 45 = .ok (.aload_n 0, 1) := by decide +kernel
theorem dX9_sees_46 : decode cX9_sees 46 = .ok (.iconst 2, 1) := by decide +kernel
theorem dX9_sees_47 : decode cX9_sees 47 = .ok (.iload_n 1, 1) := by decide +kernel
theorem dX9_sees_48 : decode cX9_sees 48 = .ok (.iload_n 2, 1) := by decide +kernel
theorem dX9_sees_49 : decode cX9_sees 49 = .ok (.invokevirtual 332, 3) := by decide +kernel
theorem dX9_sees_52 : decode cX9_sees 52 = .ok (.ifCond .eq 9, 3) := by decide +kernel
theorem dX9_sees_55 : decode cX9_sees 55 = .ok (.aload_n 0, 1) := by decide +kernel
theorem dX9_sees_56 : decode cX9_sees 56 = .ok (.iload_n 1, 1) := by decide +kernel
theorem dX9_sees_57 : decode cX9_sees 57 = .ok (.iconst 4, 1) := by decide +kernel
theorem dX9_sees_58 : decode cX9_sees 58 = .ok (.invokevirtual 340, 3) := by decide +kernel
theorem dX9_sees_61 : decode cX9_sees 61 = .ok (.aload_n 0, 1) := by decide +kernel
theorem dX9_sees_62 : decode cX9_sees 62 = .ok (.aload_n 0, 1) := by decide +kernel
theorem dX9_sees_63 : decode cX9_sees 63 = .ok (.getfield 86, 3) := by decide +kernel
theorem dX9_sees_66 : decode cX9_sees 66 = .ok (.iload_n 1, 1) := by decide +kernel
theorem dX9_sees_67 : decode cX9_sees 67 = .ok (.iaload, 1) := by decide +kernel
theorem dX9_sees_68 : decode cX9_sees 68 = .ok (.iload_n 2, 1) := by decide +kernel
theorem dX9_sees_69 : decode cX9_sees 69 = .ok (.iload_n 3, 1) := by decide +kernel
theorem dX9_sees_70 : decode cX9_sees 70 = .ok (.invokevirtual 252, 3) := by decide +kernel
theorem dX9_sees_73 : decode cX9_sees 73 = .ok (.istore 4, 2) := by decide +kernel
theorem dX9_sees_75 : decode cX9_sees 75 = .ok (.aload_n 0, 1) := by decide +kernel
theorem dX9_sees_76 : decode cX9_sees 76 = .ok (.getfield 110, 3) := by decide +kernel
theorem dX9_sees_79 : decode cX9_sees 79 = .ok (.iload_n 1, 1) := by decide +kernel
theorem dX9_sees_80 : decode cX9_sees 80 = .ok (.baload, 1) := by decide +kernel
theorem dX9_sees_81 : decode cX9_sees 81 = .ok (.ifCond .ne 16, 3) := by decide +kernel
theorem dX9_sees_84 : decode cX9_sees 84 = .ok (.iload 4, 2) := by decide +kernel
theorem dX9_sees_86 : decode cX9_sees 86 = .ok (.iconst 1, 1) := by decide +kernel
theorem dX9_sees_87 : decode cX9_sees 87 = .ok (.if_icmp .le 10, 3) := by decide +kernel
theorem dX9_sees_90 : decode cX9_sees 90 = .ok (.aload_n 0, 1) := by decide +kernel
theorem dX9_sees_91 : decode cX9_sees 91 = .ok (.iload_n 1, 1) := by decide +kernel
theorem dX9_sees_92 : decode cX9_sees 92 = .ok (.iload 4, 2) := by decide +kernel
theorem dX9_sees_94 : decode cX9_sees 94 = .ok (.invokevirtual 340, 3) := by decide +kernel
theorem dX9_sees_97 : decode cX9_sees 97 = .ok (.aload_n 0, 1) := by decide +kernel
theorem dX9_sees_98 : decode cX9_sees 98 = .ok (.iload_n 1, 1) := by decide +kernel
theorem dX9_sees_99 : decode cX9_sees 99 = .ok (.iload_n 2, 1) := by decide +kernel
theorem dX9_sees_100 : decode cX9_sees 100 = .ok (.invokevirtual 344, 3) := by decide +kernel
theorem dX9_sees_103 : decode cX9_sees 103 = .ok (.istore 5, 2) := by decide +kernel
theorem dX9_sees_105 : decode cX9_sees 105 = .ok (.iload 5, 2) := by decide +kernel
theorem dX9_sees_107 : decode cX9_sees 107 = .ok (.iload_n 3, 1) := by decide +kernel
theorem dX9_sees_108 : decode cX9_sees 108 = .ok (.if_icmp .ne 20, 3) := by decide +kernel
theorem dX9_sees_111 : decode cX9_sees 111 = .ok (.aload_n 0, 1) := by decide +kernel
theorem dX9_sees_112 : decode cX9_sees 112 = .ok (.getfield 110, 3) := by decide +kernel
theorem dX9_sees_115 : decode cX9_sees 115 = .ok (.iload_n 1, 1) := by decide +kernel
theorem dX9_sees_116 : decode cX9_sees 116 = .ok (.baload, 1) := by decide +kernel
theorem dX9_sees_117 : decode cX9_sees 117 = .ok (.ifCond .eq 11, 3) := by decide +kernel
theorem dX9_sees_120 : decode cX9_sees 120 = .ok (.aload_n 0, 1) := by decide +kernel
theorem dX9_sees_121 : decode cX9_sees 121 = .ok (.iload_n 1, 1) := by decide +kernel
theorem dX9_sees_122 : decode cX9_sees 122 = .ok (.iconst 3, 1) := by decide +kernel
theorem dX9_sees_123 : decode cX9_sees 123 = .ok (.iload_n 2, 1) := by decide +kernel
theorem dX9_sees_124 : decode cX9_sees 124 = .ok (.invokevirtual 337, 3) := by decide +kernel
theorem dX9_sees_127 : decode cX9_sees 127 = .ok (.return_, 1) := by decide +kernel
theorem dX9_sees_128 : decode cX9_sees 128 = .ok (.iload 5, 2) := by decide +kernel
theorem dX9_sees_130 : decode cX9_sees 130 = .ok (.iload_n 3, 1) := by decide +kernel
theorem dX9_sees_131 : decode cX9_sees 131 = .ok (.if_icmp .ne 26, 3) := by decide +kernel
theorem dX9_sees_134 : decode cX9_sees 134 = .ok (.aload_n 0, 1) := by decide +kernel
theorem dX9_sees_135 : decode cX9_sees 135 = .ok (.aload_n 0, 1) := by decide +kernel
theorem dX9_sees_136 : decode cX9_sees 136 = .ok (.getfield 86, 3) := by decide +kernel
theorem dX9_sees_139 : decode cX9_sees 139 = .ok (.iload_n 1, 1) := by decide +kernel
theorem dX9_sees_140 : decode cX9_sees 140 = .ok (.iaload, 1) := by decide +kernel
theorem dX9_sees_141 : decode cX9_sees 141 = .ok (.iload_n 2, 1) := by decide +kernel
theorem dX9_sees_142 : decode cX9_sees 142 = .ok (.invokevirtual 255, 3) := by decide +kernel
theorem dX9_sees_145 : decode cX9_sees 145 = .ok (.iload_n 3, 1) := by decide +kernel
theorem dX9_sees_146 : decode cX9_sees 146 = .ok (.if_icmp .ne 11, 3) := by decide +kernel
theorem dX9_sees_149 : decode cX9_sees 149 = .ok (.aload_n 0, 1) := by decide +kernel
theorem dX9_sees_150 : decode cX9_sees 150 = .ok (.iload_n 1, 1) := by decide +kernel
theorem dX9_sees_151 : decode cX9_sees 151 = .ok (.iconst 2, 1) := by decide +kernel
theorem dX9_sees_152 : decode cX9_sees 152 = .ok (.iload_n 2, 1) := by decide +kernel
theorem dX9_sees_153 : decode cX9_sees 153 = .ok (.invokevirtual 337, 3) := by decide +kernel
theorem dX9_sees_156 : decode cX9_sees 156 = .ok (.return_, 1) := by decide +kernel
theorem dX9_sees_157 : decode cX9_sees 157 = .ok (.iload 5, 2) := by decide +kernel
theorem dX9_sees_159 : decode cX9_sees 159 = .ok (.ifCond .lt 9, 3) := by decide +kernel
theorem dX9_sees_162 : decode cX9_sees 162 = .ok (.iload 5, 2) := by decide +kernel
theorem dX9_sees_164 : decode cX9_sees 164 = .ok (.iload_n 3, 1) := by decide +kernel
theorem dX9_sees_165 : decode cX9_sees 165 = .ok (.if_icmp .ne 25, 3) := by decide +kernel
theorem dX9_sees_168 : decode cX9_sees 168 = .ok (.iload_n 2, 1) := by decide +kernel
theorem dX9_sees_169 : decode cX9_sees 169 = .ok (.aload_n 0, 1) := by decide +kernel
theorem dX9_sees_170 : decode cX9_sees 170 = .ok (.getfield 98, 3) := by decide +kernel
theorem dX9_sees_173 : decode cX9_sees 173 = .ok (.iload_n 1, 1) := by decide +kernel
theorem dX9_sees_174 : decode cX9_sees 174 = .ok (.iaload, 1) := by decide +kernel
theorem dX9_sees_175 : decode cX9_sees 175 = .ok (.isub, 1) := by decide +kernel
theorem dX9_sees_176 : decode cX9_sees 176 = .ok (.aload_n 0, 1) := by decide +kernel
theorem dX9_sees_177 : decode cX9_sees 177 = .ok (.getfield 116, 3) := by decide +kernel
theorem dX9_sees_180 : decode cX9_sees 180 = .ok (.if_icmp .lt 9, 3) := by decide +kernel
theorem dX9_sees_183 : decode cX9_sees 183 = .ok (.aload_n 0, 1) := by decide +kernel
theorem dX9_sees_184 : decode cX9_sees 184 = .ok (.iload_n 1, 1) := by decide +kernel
theorem dX9_sees_185 : decode cX9_sees 185 = .ok (.iconst 1, 1) := by decide +kernel
theorem dX9_sees_186 : decode cX9_sees 186 = .ok (.invokevirtual 340, 3) := by decide +kernel
theorem dX9_sees_189 : decode cX9_sees 189 = .ok (.return_, 1) := by decide +kernel
theorem dX9_sees_190 : decode cX9_sees 190 = .ok (.aload_n 0, 1) := by decide +kernel
theorem dX9_sees_191 : decode cX9_sees 191 = .ok (.iload_n 3, 1) := by decide +kernel
theorem dX9_sees_192 : decode cX9_sees 192 = .ok (.iload 5, 2) := by decide +kernel
theorem dX9_sees_194 : decode cX9_sees 194 = .ok (.invokevirtual 347, 3) := by decide +kernel
theorem dX9_sees_197 : decode cX9_sees 197 = .ok (.istore 6, 2) := by decide +kernel
theorem dX9_sees_199 : decode cX9_sees 199 = .ok (.iload 6, 2) := by decide +kernel
theorem dX9_sees_201 : decode cX9_sees 201 = .ok (.ifCond .lt 13, 3) := by decide +kernel
theorem dX9_sees_204 : decode cX9_sees 204 = .ok (.aload_n 0, 1) := by decide +kernel
theorem dX9_sees_205 : decode cX9_sees 205 = .ok (.iload 6, 2) := by decide +kernel
theorem dX9_sees_207 : decode cX9_sees 207 = .ok (.iload_n 2, 1) := by decide +kernel
theorem dX9_sees_208 : decode cX9_sees 208 = .ok (.invokevirtual 350, 3) := by decide +kernel
theorem dX9_sees_211 : decode cX9_sees 211 = .ok (.ifCond .ne 4, 3) := by decide +kernel
theorem dX9_sees_214 : decode cX9_sees 214 = .ok (.return_, 1) := by decide +kernel
theorem dX9_sees_215 : decode cX9_sees 215 = .ok (.aload_n 0, 1) := by decide +kernel
theorem dX9_sees_216 : decode cX9_sees 216 = .ok (.getfield 92, 3) := by decide +kernel
theorem dX9_sees_219 : decode cX9_sees 219 = .ok (.iload_n 1, 1) := by decide +kernel
theorem dX9_sees_220 : decode cX9_sees 220 = .ok (.iconst 1, 1) := by decide +kernel
theorem dX9_sees_221 : decode cX9_sees 221 = .ok (.iastore, 1) := by decide +kernel
theorem dX9_sees_222 : decode cX9_sees 222 = .ok (.aload_n 0, 1) := by decide +kernel
theorem dX9_sees_223 : decode cX9_sees 223 = .ok (.getfield 95, 3) := by decide +kernel
theorem dX9_sees_226 : decode cX9_sees 226 = .ok (.iload_n 1, 1) := by decide +kernel
theorem dX9_sees_227 : decode cX9_sees 227 = .ok (.aload_n 0, 1) := by decide +kernel
theorem dX9_sees_228 : decode cX9_sees 228 = .ok (.getfield 16, 3) := by decide +kernel
theorem dX9_sees_231 : decode cX9_sees 231 = .ok (.iload 6, 2) := by decide +kernel
theorem dX9_sees_233 : decode cX9_sees 233 = .ok (.iaload, 1) := by decide +kernel
theorem dX9_sees_234 : decode cX9_sees 234 = .ok (.iload_n 3, 1) := by decide +kernel
theorem dX9_sees_235 : decode cX9_sees 235 = .ok (.if_icmp .ne 13, 3) := by decide +kernel
theorem dX9_sees_238 : decode cX9_sees 238 = .ok (.aload_n 0, 1) := by decide +kernel
theorem dX9_sees_239 : decode cX9_sees 239 = .ok (.getfield 19, 3) := by decide +kernel
theorem dX9_sees_242 : decode cX9_sees 242 = .ok (.iload 6, 2) := by decide +kernel
theorem dX9_sees_244 : decode cX9_sees 244 = .ok (.iaload, 1) := by decide +kernel
theorem dX9_sees_245 : decode cX9_sees 245 = .ok (.goto 10, 3) := by decide +kernel
theorem dX9_sees_248 : decode cX9_sees 248 = .ok (.aload_n 0, 1) := by decide +kernel
theorem dX9_sees_249 : decode cX9_sees 249 = .ok (.getfield 16, 3) := by decide +kernel
theorem dX9_sees_252 : decode cX9_sees 252 = .ok (.iload 6, 2) := by decide +kernel
theorem dX9_sees_254 : decode cX9_sees 254 = .ok (.iaload, 1) := by decide +kernel
theorem dX9_sees_255 : decode cX9_sees 255 = .ok (.iastore, 1) := by decide +kernel
theorem dX9_sees_256 : decode cX9_sees 256 = .ok (.aload_n 0, 1) := by decide +kernel
theorem dX9_sees_257 : decode cX9_sees 257 = .ok (.getfield 98, 3) := by decide +kernel
theorem dX9_sees_260 : decode cX9_sees 260 = .ok (.iload_n 1, 1) := by decide +kernel
theorem dX9_sees_261 : decode cX9_sees 261 = .ok (.iload_n 2, 1) := by decide +kernel
theorem dX9_sees_262 : decode cX9_sees 262 = .ok (.aload_n 0, 1) := by decide +kernel
theorem dX9_sees_263 : decode cX9_sees 263 = .ok (.getfield 22, 3) := by decide +kernel
theorem dX9_sees_266 : decode cX9_sees 266 = .ok (.iload 6, 2) := by decide +kernel
theorem dX9_sees_268 : decode cX9_sees 268 = .ok (.iaload, 1) := by decide +kernel
theorem dX9_sees_269 : decode cX9_sees 269 = .ok (.iadd, 1) := by decide +kernel
theorem dX9_sees_270 : decode cX9_sees 270 = .ok (.iastore, 1) := by decide +kernel
theorem dX9_sees_271 : decode cX9_sees 271 = .ok (.return_, 1) := by decide +kernel
theorem dX9_nextAt_0 : decode cX9_nextAt 0 = .ok (.bipush (-9), 2) := by decide +kernel
theorem dX9_nextAt_2 : decode cX9_nextAt 2 = .ok (.istore_n 2, 1) := by decide +kernel
theorem dX9_nextAt_3 : decode cX9_nextAt 3 = .ok (.iconst 0, 1) := by decide +kernel
theorem dX9_nextAt_4 : decode cX9_nextAt 4 = .ok (.istore_n 3, 1) := by decide +kernel
theorem dX9_nextAt_5 : decode cX9_nextAt 5 = .ok (.iload_n 3, 1) := by decide +kernel
theorem dX9_nextAt_6 : decode cX9_nextAt 6 = .ok (.aload_n 0, 1) := by decide +kernel
theorem dX9_nextAt_7 : decode cX9_nextAt 7 = .ok (.getfield 259, 3) := by decide +kernel
theorem dX9_nextAt_10 : decode cX9_nextAt 10 = .ok (.if_icmp .ge 58, 3) := by decide +kernel
theorem dX9_nextAt_13 : decode cX9_nextAt 13 = .ok (.aload_n 0, 1) := by decide +kernel
theorem dX9_nextAt_14 : decode cX9_nextAt 14 = .ok (.getfield 92, 3) := by decide +kernel
theorem dX9_nextAt_17 : decode cX9_nextAt 17 = .ok (.iload_n 3, 1) := by decide +kernel
theorem dX9_nextAt_18 : decode cX9_nextAt 18 = .ok (.iaload, 1) := by decide +kernel
theorem dX9_nextAt_19 : decode cX9_nextAt 19 = .ok (.ifCond .ne 43, 3) := by decide +kernel
theorem dX9_nextAt_22 : decode cX9_nextAt 22 = .ok (.aload_n 0, 1) := by decide +kernel
theorem dX9_nextAt_23 : decode cX9_nextAt 23 = .ok (.getfield 95, 3) := by decide +kernel
theorem dX9_nextAt_26 : decode cX9_nextAt 26 = .ok (.iload_n 3, 1) := by decide +kernel
theorem dX9_nextAt_27 : decode cX9_nextAt 27 = .ok (.iaload, 1) := by decide +kernel
theorem dX9_nextAt_28 : decode cX9_nextAt 28 = .ok (.iload_n 1, 1) := by decide +kernel
theorem dX9_nextAt_29 : decode cX9_nextAt 29 = .ok (.if_icmp .ne 33, 3) := by decide +kernel
theorem dX9_nextAt_32 : decode cX9_nextAt 32 = .ok (.aload_n 0, 1) := by decide +kernel
theorem dX9_nextAt_33 : decode cX9_nextAt 33 = .ok (.getfield 147, 3) := by decide +kernel
theorem dX9_nextAt_36 : decode cX9_nextAt 36 = .ok (.iload_n 3, 1) := by decide +kernel
theorem dX9_nextAt_37 : decode cX9_nextAt 37 = .ok (.baload, 1) := by decide +kernel
theorem dX9_nextAt_38 : decode cX9_nextAt 38 = .ok (.ifCond .ne 24, 3) := by decide +kernel
theorem dX9_nextAt_41 : decode cX9_nextAt 41 = .ok (.iload_n 2, 1) := by decide +kernel
theorem dX9_nextAt_42 : decode cX9_nextAt 42 = .ok (.ifCond .lt 18, 3) := by decide +kernel
theorem dX9_nextAt_45 : decode cX9_nextAt 45 = .ok (.aload_n 0, 1) := by decide +kernel
theorem dX9_nextAt_46 : decode cX9_nextAt 46 = .ok (.getfield 98, 3) := by decide +kernel
theorem dX9_nextAt_49 : decode cX9_nextAt 49 = .ok (.iload_n 3, 1) := by decide +kernel
theorem dX9_nextAt_50 : decode cX9_nextAt 50 = .ok (.iaload, 1) := by decide +kernel
theorem dX9_nextAt_51 : decode cX9_nextAt 51 = .ok (.aload_n 0, 1) := by decide +kernel
theorem dX9_nextAt_52 : decode cX9_nextAt 52 = .ok (.getfield 98, 3) := by decide +kernel
theorem dX9_nextAt_55 : decode cX9_nextAt 55 = .ok (.iload_n 2, 1) := by decide +kernel
theorem dX9_nextAt_56 : decode cX9_nextAt 56 = .ok (.iaload, 1) := by decide +kernel
theorem dX9_nextAt_57 : decode cX9_nextAt 57 = .ok (.if_icmp .ge 5, 3) := by decide +kernel
theorem dX9_nextAt_60 : decode cX9_nextAt 60 = .ok (.iload_n 3, 1) := by decide +kernel
theorem dX9_nextAt_61 : decode cX9_nextAt 61 = .ok (.istore_n 2, 1) := by decide +kernel
theorem dX9_nextAt_62 : decode cX9_nextAt 62 = .ok (.iinc 3 1, 3) := by decide +kernel
theorem dX9_nextAt_65 : decode cX9_nextAt 65 = .ok (.goto (-60), 3) := by decide +kernel
theorem dX9_nextAt_68 : decode cX9_nextAt 68 = .ok (.iload_n 2, 1) := by decide +kernel
theorem dX9_nextAt_69 : decode cX9_nextAt 69 = .ok (.ireturn, 1) := by decide +kernel
theorem dX9_passes_0 : decode cX9_passes 0 = .ok (.iconst 0, 1) := by decide +kernel
theorem dX9_passes_1 : decode cX9_passes 1 = .ok (.istore_n 2, 1) := by decide +kernel
theorem dX9_passes_2 : decode cX9_passes 2 = .ok (.iload_n 2, 1) := by decide +kernel
theorem dX9_passes_3 : decode cX9_passes 3 = .ok (.aload_n 0, 1) := by decide +kernel
theorem dX9_passes_4 : decode cX9_passes 4 = .ok (.getfield 259, 3) := by decide +kernel
theorem dX9_passes_7 : decode cX9_passes 7 = .ok (.if_icmp .ge 48, 3) := by decide +kernel
theorem dX9_passes_10 : decode cX9_passes 10 = .ok (.aload_n 0, 1) := by decide +kernel
theorem dX9_passes_11 : decode cX9_passes 11 = .ok (.getfield 147, 3) := by decide +kernel
theorem dX9_passes_14 : decode cX9_passes 14 = .ok (.iload_n 2, 1) := by decide +kernel
theorem dX9_passes_15 : decode cX9_passes 15 = .ok (.iconst 0, 1) := by decide +kernel
theorem dX9_passes_16 : decode cX9_passes 16 = .ok (.bastore, 1) := by decide +kernel
theorem dX9_passes_17 : decode cX9_passes 17 = .ok (.aload_n 0, 1) := by decide +kernel
theorem dX9_passes_18 : decode cX9_passes 18 = .ok (.getfield 92, 3) := by decide +kernel
theorem dX9_passes_21 : decode cX9_passes 21 = .ok (.iload_n 2, 1) := by decide +kernel
theorem dX9_passes_22 : decode cX9_passes 22 = .ok (.iaload, 1) := by decide +kernel
theorem dX9_passes_23 : decode cX9_passes 23 = .ok (.iconst 1, 1) := by decide +kernel
theorem dX9_passes_24 : decode cX9_passes 24 = .ok (.if_icmp .ne 25, 3) := by decide +kernel
theorem dX9_passes_27 : decode cX9_passes 27 = .ok (.aload_n 0, 1) := by decide +kernel
theorem dX9_passes_28 : decode cX9_passes 28 = .ok (.getfield 98, 3) := by decide +kernel
theorem dX9_passes_31 : decode cX9_passes 31 = .ok (.iload_n 2, 1) := by decide +kernel
theorem dX9_passes_32 : decode cX9_passes 32 = .ok (.iaload, 1) := by decide +kernel
theorem dX9_passes_33 : decode cX9_passes 33 = .ok (.iload_n 1, 1) := by decide +kernel
theorem dX9_passes_34 : decode cX9_passes 34 = .ok (.if_icmp .ne 15, 3) := by decide +kernel
theorem dX9_passes_37 : decode cX9_passes 37 = .ok (.aload_n 0, 1) := by decide +kernel
theorem dX9_passes_38 : decode cX9_passes 38 = .ok (.iload_n 2, 1) := by decide +kernel
theorem dX9_passes_39 : decode cX9_passes 39 = .ok (.aload_n 0, 1) := by decide +kernel
theorem dX9_passes_40 : decode cX9_passes 40 = .ok (.getfield 95, 3) := by decide +kernel
theorem dX9_passes_43 : decode cX9_passes 43 = .ok (.iload_n 2, 1) := by decide +kernel
theorem dX9_passes_44 : decode cX9_passes 44 = .ok (.iaload, 1) := by decide +kernel
theorem dX9_passes_45 : decode cX9_passes 45 = .ok (.iload_n 1, 1) := by decide +kernel
theorem dX9_passes_46 : decode cX9_passes 46 = .ok (.invokevirtual 264, 3) := by decide +kernel
theorem dX9_passes_49 : decode cX9_passes 49 = .ok (.iinc 2 1, 3) := by decide +kernel
theorem dX9_passes_52 : decode cX9_passes 52 = .ok (.goto (-50), 3) := by decide +kernel
theorem dX9_passes_55 : decode cX9_passes 55 = .ok (.iconst 0, 1) := by decide +kernel
theorem dX9_passes_56 : decode cX9_passes 56 = .ok (.istore_n 2, 1) := by decide +kernel
theorem dX9_passes_57 : decode cX9_passes 57 = .ok (.iload_n 2, 1) := by decide +kernel
theorem dX9_passes_58 : decode cX9_passes 58 = .ok (.aload_n 0, 1) := by decide +kernel
theorem dX9_passes_59 : decode cX9_passes 59 = .ok (.getfield 183, 3) := by decide +kernel
theorem dX9_passes_62 : decode cX9_passes 62 = .ok (.if_icmp .ge 58, 3) := by decide +kernel
theorem dX9_passes_65 : decode cX9_passes 65 = .ok (.aload_n 0, 1) := by decide +kernel
theorem dX9_passes_66 : decode cX9_passes 66 = .ok (.iload_n 2, 1) := by decide +kernel
theorem dX9_passes_67 : decode cX9_passes 67 = .ok (.invokevirtual 354, 3) := by decide +kernel
theorem dX9_passes_70 : decode cX9_passes 70 = .ok (.istore_n 3, 1) := by decide +kernel
theorem dX9_passes_71 : decode cX9_passes 71 = .ok (.iconst 0, 1) := by decide +kernel
theorem dX9_passes_72 : decode cX9_passes 72 = .ok (.istore 4, 2) := by decide +kernel
theorem dX9_passes_74 : decode cX9_passes 74 = .ok (.iload 4, 2) := by decide +kernel
theorem dX9_passes_76 : decode cX9_passes 76 = .ok (.aload_n 0, 1) := by decide +kernel
theorem dX9_passes_77 : decode cX9_passes 77 = .ok (.getfield 13, 3) := by decide +kernel
theorem dX9_passes_80 : decode cX9_passes 80 = .ok (.iload_n 2, 1) := by decide +kernel
theorem dX9_passes_81 : decode cX9_passes 81 = .ok (.iaload, 1) := by decide +kernel
theorem dX9_passes_82 : decode cX9_passes 82 = .ok (.if_icmp .ge 32, 3) := by decide +kernel
theorem dX9_passes_85 : decode cX9_passes 85 = .ok (.iload_n 3, 1) := by decide +kernel
theorem dX9_passes_86 : decode cX9_passes 86 = .ok (.ifCond .lt 28, 3) := by decide +kernel
theorem dX9_passes_89 : decode cX9_passes 89 = .ok (.aload_n 0, 1) := by decide +kernel
theorem dX9_passes_90 : decode cX9_passes 90 = .ok (.getfield 147, 3) := by decide +kernel
theorem dX9_passes_93 : decode cX9_passes 93 = .ok (.iload_n 3, 1) := by decide +kernel
theorem dX9_passes_94 : decode cX9_passes 94 = .ok (.iconst 1, 1) := by decide +kernel
theorem dX9_passes_95 : decode cX9_passes 95 = .ok (.bastore, 1) := by decide +kernel
theorem dX9_passes_96 : decode cX9_passes 96 = .ok (.aload_n 0, 1) := by decide +kernel
theorem dX9_passes_97 : decode cX9_passes 97 = .ok (.iload_n 3, 1) := by decide +kernel
theorem dX9_passes_98 : decode cX9_passes 98 = .ok (.iload_n 1, 1) := by decide +kernel
theorem dX9_passes_99 : decode cX9_passes 99 = .ok (.invokevirtual 357, 3) := by decide +kernel
theorem dX9_passes_102 : decode cX9_passes 102 = .ok (.aload_n 0, 1) := by decide +kernel
theorem dX9_passes_103 : decode cX9_passes 103 = .ok (.iload_n 2, 1) := by decide +kernel
theorem dX9_passes_104 : decode cX9_passes 104 = .ok (.invokevirtual 354, 3) := by decide +kernel
theorem dX9_passes_107 : decode cX9_passes 107 = .ok (.istore_n 3, 1) := by decide +kernel
theorem dX9_passes_108 : decode cX9_passes 108 = .ok (.iinc 4 1, 3) := by decide +kernel
theorem dX9_passes_111 : decode cX9_passes 111 = .ok (.goto (-37), 3) := by decide +kernel
theorem dX9_passes_114 : decode cX9_passes 114 = .ok (.iinc 2 1, 3) := by decide +kernel
theorem dX9_passes_117 : decode cX9_passes 117 = .ok (.goto (-60), 3) := by decide +kernel
theorem dX9_passes_120 : decode cX9_passes 120 = .ok (.return_, 1) := by decide +kernel
theorem dX9_hours_0 : decode cX9_hours 0 = .ok (.iload_n 1, 1) := by decide +kernel
theorem dX9_hours_1 : decode cX9_hours 1 = .ok (.iconst 1, 1) := by decide +kernel
theorem dX9_hours_2 : decode cX9_hours 2 = .ok (.if_icmp .ge 8, 3) := by decide +kernel
theorem dX9_hours_5 : decode cX9_hours 5 = .ok (.bipush (-4), 2) := by decide +kernel
theorem dX9_hours_7 : decode cX9_hours 7 = .ok (.goto 21, 3) := by decide +kernel
theorem dX9_hours_10 : decode cX9_hours 10 = .ok (.iload_n 1, 1) := by decide +kernel
theorem dX9_hours_11 : decode cX9_hours 11 = .ok (.sipush 2000, 3) := by decide +kernel
theorem dX9_hours_14 : decode cX9_hours 14 = .ok (.aload_n 0, 1) := by decide +kernel
theorem dX9_hours_15 : decode cX9_hours 15 = .ok (.getfield 207, 3) := by decide +kernel
theorem dX9_hours_18 : decode cX9_hours 18 = .ok (.isub, 1) := by decide +kernel
theorem dX9_hours_19 : decode cX9_hours 19 = .ok (.if_icmp .le 8, 3) := by decide +kernel
theorem dX9_hours_22 : decode cX9_hours 22 = .ok (.bipush (-6), 2) := by decide +kernel
theorem dX9_hours_24 : decode cX9_hours 24 = .ok (.goto 4, 3) := by decide +kernel
theorem dX9_hours_27 : decode cX9_hours 27 = .ok (.iconst 0, 1) := by decide +kernel
theorem dX9_hours_28 : decode cX9_hours 28 = .ok (.istore_n 2, 1) := by decide +kernel
theorem dX9_hours_29 : decode cX9_hours 29 = .ok (.iload_n 2, 1) := by decide +kernel
theorem dX9_hours_30 : decode cX9_hours 30 = .ok (.ifCond .eq 9, 3) := by decide +kernel
theorem dX9_hours_33 : decode cX9_hours 33 = .ok (.aload_n 0, 1) := by decide +kernel
theorem dX9_hours_34 : decode cX9_hours 34 = .ok (.iload_n 2, 1) := by decide +kernel
theorem dX9_hours_35 : decode cX9_hours 35 = .ok (.invokevirtual 192, 3) := by decide +kernel
theorem dX9_hours_38 : decode cX9_hours 38 = .ok (.ireturn, 1) := by decide +kernel
theorem dX9_hours_39 : decode cX9_hours 39 = .ok (.aload_n 0, 1) := by decide +kernel
theorem dX9_hours_40 : decode cX9_hours 40 = .ok (.invokevirtual 214, 3) := by decide +kernel
theorem dX9_hours_43 : decode cX9_hours 43 = .ok (.iconst 0, 1) := by decide +kernel
theorem dX9_hours_44 : decode cX9_hours 44 = .ok (.istore_n 3, 1) := by decide +kernel
theorem dX9_hours_45 : decode cX9_hours 45 = .ok (.iload_n 3, 1) := by decide +kernel
theorem dX9_hours_46 : decode cX9_hours 46 = .ok (.iload_n 1, 1) := by decide +kernel
theorem dX9_hours_47 : decode cX9_hours 47 = .ok (.if_icmp .ge 27, 3) := by decide +kernel
theorem dX9_hours_50 : decode cX9_hours 50 = .ok (.aload_n 0, 1) := by decide +kernel
theorem dX9_hours_51 : decode cX9_hours 51 = .ok (.aload_n 0, 1) := by decide +kernel
theorem dX9_hours_52 : decode cX9_hours 52 = .ok (.getfield 207, 3) := by decide +kernel
theorem dX9_hours_55 : decode cX9_hours 55 = .ok (.invokevirtual 360, 3) := by decide +kernel
theorem dX9_hours_58 : decode cX9_hours 58 = .ok (.aload_n 0, 1) := by decide +kernel
theorem dX9_hours_59 : decode cX9_hours 59 = .ok (.dup, 1) := by decide +kernel
theorem dX9_hours_60 : decode cX9_hours 60 = .ok (.getfield 207, 3) := by decide +kernel
theorem dX9_hours_63 : decode cX9_hours 63 = .ok (.iconst 1, 1) := by decide +kernel
theorem dX9_hours_64 : decode cX9_hours 64 = .ok (.iadd, 1) := by decide +kernel
theorem dX9_hours_65 : decode cX9_hours 65 = .ok (.putfield 207, 3) := by decide +kernel
theorem dX9_hours_68 : decode cX9_hours 68 = .ok (.iinc 3 1, 3) := by decide +kernel
theorem dX9_hours_71 : decode cX9_hours 71 = .ok (.goto (-26), 3) := by decide +kernel
theorem dX9_hours_74 : decode cX9_hours 74 = .ok (.aload_n 0, 1) := by decide +kernel
theorem dX9_hours_75 : decode cX9_hours 75 = .ok (.getfield 207, 3) := by decide +kernel
theorem dX9_hours_78 : decode cX9_hours 78 = .ok (.ireturn, 1) := by decide +kernel
theorem dX9_mailOf_0 : decode cX9_mailOf 0 = .ok (.aload_n 0, 1) := by decide +kernel
theorem dX9_mailOf_1 : decode cX9_mailOf 1 = .ok (.iload_n 1, 1) := by decide +kernel
theorem dX9_mailOf_2 : decode cX9_mailOf 2 = .ok (.invokevirtual 329, 3) := by decide +kernel
theorem dX9_mailOf_5 : decode cX9_mailOf 5 = .ok (.ifCond .ne 9, 3) := by decide +kernel
theorem dX9_mailOf_8 : decode cX9_mailOf 8 = .ok (.aload_n 0, 1) := by decide +kernel
theorem dX9_mailOf_9 : decode cX9_mailOf 9 = .ok (.iconst (-1), 1) := by decide +kernel
theorem dX9_mailOf_10 : decode cX9_mailOf 10 = .ok (.invokevirtual 192, 3) := by decide +kernel
theorem dX9_mailOf_13 : decode cX9_mailOf 13 = .ok (.ireturn, 1) := by decide +kernel
theorem dX9_mailOf_14 : decode cX9_mailOf 14 = .ok (.iload_n 2, 1) := by decide +kernel
theorem dX9_mailOf_15 : decode cX9_mailOf 15 = .ok (.tableswitch 117 0 7 #[45, 52, 59, 66, 73, 88, 95, 102], 45) := by decide +kernel
theorem dX9_mailOf_60 : decode cX9_mailOf 60 = .ok (.aload_n 0, 1) := by decide +kernel
theorem dX9_mailOf_61 : decode cX9_mailOf 61 = .ok (.getfield 77, 3) := by decide +kernel
theorem dX9_mailOf_64 : decode cX9_mailOf 64 = .ok (.iload_n 1, 1) := by decide +kernel
theorem dX9_mailOf_65 : decode cX9_mailOf 65 = .ok (.iaload, 1) := by decide +kernel
theorem dX9_mailOf_66 : decode cX9_mailOf 66 = .ok (.ireturn, 1) := by decide +kernel
theorem dX9_mailOf_67 : decode cX9_mailOf 67 = .ok (.aload_n 0, 1) := by decide +kernel
theorem dX9_mailOf_68 : decode cX9_mailOf 68 = .ok (.getfield 92, 3) := by decide +kernel
theorem dX9_mailOf_71 : decode cX9_mailOf 71 = .ok (.iload_n 1, 1) := by decide +kernel
theorem dX9_mailOf_72 : decode cX9_mailOf 72 = .ok (.iaload, 1) := by decide +kernel
theorem dX9_mailOf_73 : decode cX9_mailOf 73 = .ok (.ireturn, 1) := by decide +kernel
theorem dX9_mailOf_74 : decode cX9_mailOf 74 = .ok (.aload_n 0, 1) := by decide +kernel
theorem dX9_mailOf_75 : decode cX9_mailOf 75 = .ok (.getfield 95, 3) := by decide +kernel
theorem dX9_mailOf_78 : decode cX9_mailOf 78 = .ok (.iload_n 1, 1) := by decide +kernel
theorem dX9_mailOf_79 : decode cX9_mailOf 79 = .ok (.iaload, 1) := by decide +kernel
theorem dX9_mailOf_80 : decode cX9_mailOf 80 = .ok (.ireturn, 1) := by decide +kernel
theorem dX9_mailOf_81 : decode cX9_mailOf 81 = .ok (.aload_n 0, 1) := by decide +kernel
theorem dX9_mailOf_82 : decode cX9_mailOf 82 = .ok (.getfield 98, 3) := by decide +kernel
theorem dX9_mailOf_85 : decode cX9_mailOf 85 = .ok (.iload_n 1, 1) := by decide +kernel
theorem dX9_mailOf_86 : decode cX9_mailOf 86 = .ok (.iaload, 1) := by decide +kernel
theorem dX9_mailOf_87 : decode cX9_mailOf 87 = .ok (.ireturn, 1) := by decide +kernel
theorem dX9_mailOf_88 : decode cX9_mailOf 88 = .ok (.aload_n 0, 1) := by decide +kernel
theorem dX9_mailOf_89 : decode cX9_mailOf 89 = .ok (.getfield 110, 3) := by decide +kernel
theorem dX9_mailOf_92 : decode cX9_mailOf 92 = .ok (.iload_n 1, 1) := by decide +kernel
theorem dX9_mailOf_93 : decode cX9_mailOf 93 = .ok (.baload, 1) := by decide +kernel
theorem dX9_mailOf_94 : decode cX9_mailOf 94 = .ok (.ifCond .eq 7, 3) := by decide +kernel
theorem dX9_mailOf_97 : decode cX9_mailOf 97 = .ok (.iconst 1, 1) := by decide +kernel
theorem dX9_mailOf_98 : decode cX9_mailOf 98 = .ok (.goto 4, 3) := by decide +kernel
theorem dX9_mailOf_101 : decode cX9_mailOf 101 = .ok (.iconst 0, 1) := by decide +kernel
theorem dX9_mailOf_102 : decode cX9_mailOf 102 = .ok (.ireturn, 1) := by decide +kernel
theorem dX9_mailOf_103 : decode cX9_mailOf 103 = .ok (.aload_n 0, 1) := by decide +kernel
theorem dX9_mailOf_104 : decode cX9_mailOf 104 = .ok (.getfield 101, 3) := by decide +kernel
theorem dX9_mailOf_107 : decode cX9_mailOf 107 = .ok (.iload_n 1, 1) := by decide +kernel
theorem dX9_mailOf_108 : decode cX9_mailOf 108 = .ok (.iaload, 1) := by decide +kernel
theorem dX9_mailOf_109 : decode cX9_mailOf 109 = .ok (.ireturn, 1) := by decide +kernel
theorem dX9_mailOf_110 : decode cX9_mailOf 110 = .ok (.aload_n 0, 1) := by decide +kernel
theorem dX9_mailOf_111 : decode cX9_mailOf 111 = .ok (.getfield 104, 3) := by decide +kernel
theorem dX9_mailOf_114 : decode cX9_mailOf 114 = .ok (.iload_n 1, 1) := by decide +kernel
theorem dX9_mailOf_115 : decode cX9_mailOf 115 = .ok (.iaload, 1) := by decide +kernel
theorem dX9_mailOf_116 : decode cX9_mailOf 116 = .ok (.ireturn, 1) := by decide +kernel
theorem dX9_mailOf_117 : decode cX9_mailOf 117 = .ok (.aload_n 0, 1) := by decide +kernel
theorem dX9_mailOf_118 : decode cX9_mailOf 118 = .ok (.getfield 113, 3) := by decide +kernel
theorem dX9_mailOf_121 : decode cX9_mailOf 121 = .ok (.iload_n 1, 1) := by decide +kernel
theorem dX9_mailOf_122 : decode cX9_mailOf 122 = .ok (.baload, 1) := by decide +kernel
theorem dX9_mailOf_123 : decode cX9_mailOf 123 = .ok (.ifCond .eq 7, 3) := by decide +kernel
theorem dX9_mailOf_126 : decode cX9_mailOf 126 = .ok (.iconst 1, 1) := by decide +kernel
theorem dX9_mailOf_127 : decode cX9_mailOf 127 = .ok (.goto 4, 3) := by decide +kernel
theorem dX9_mailOf_130 : decode cX9_mailOf 130 = .ok (.iconst 0, 1) := by decide +kernel
theorem dX9_mailOf_131 : decode cX9_mailOf 131 = .ok (.ireturn, 1) := by decide +kernel
theorem dX9_mailOf_132 : decode cX9_mailOf 132 = .ok (.aload_n 0, 1) := by decide +kernel
theorem dX9_mailOf_133 : decode cX9_mailOf 133 = .ok (.bipush (-2), 2) := by decide +kernel
theorem dX9_mailOf_135 : decode cX9_mailOf 135 = .ok (.invokevirtual 192, 3) := by decide +kernel
theorem dX9_mailOf_138 : decode cX9_mailOf 138 = .ok (.ireturn, 1) := by decide +kernel
theorem dX9_goal_0 : decode cX9_goal 0 = .ok (.aload_n 0, 1) := by decide +kernel
theorem dX9_goal_1 : decode cX9_goal 1 = .ok (.iload_n 1, 1) := by decide +kernel
theorem dX9_goal_2 : decode cX9_goal 2 = .ok (.invokevirtual 329, 3) := by decide +kernel
theorem dX9_goal_5 : decode cX9_goal 5 = .ok (.ifCond .ne 9, 3) := by decide +kernel
theorem dX9_goal_8 : decode cX9_goal 8 = .ok (.aload_n 0, 1) := by decide +kernel
theorem dX9_goal_9 : decode cX9_goal 9 = .ok (.iconst (-1), 1) := by decide +kernel
theorem dX9_goal_10 : decode cX9_goal 10 = .ok (.invokevirtual 192, 3) := by decide +kernel
theorem dX9_goal_13 : decode cX9_goal 13 = .ok (.ireturn, 1) := by decide +kernel
theorem dX9_goal_14 : decode cX9_goal 14 = .ok (.aload_n 0, 1) := by decide +kernel
theorem dX9_goal_15 : decode cX9_goal 15 = .ok (.getfield 92, 3) := by decide +kernel
theorem dX9_goal_18 : decode cX9_goal 18 = .ok (.iload_n 1, 1) := by decide +kernel
theorem dX9_goal_19 : decode cX9_goal 19 = .ok (.iaload, 1) := by decide +kernel
theorem dX9_goal_20 : decode cX9_goal 20 = .ok (.ifCond .eq 10, 3) := by decide +kernel
theorem dX9_goal_23 : decode cX9_goal 23 = .ok (.aload_n 0, 1) := by decide +kernel
theorem dX9_goal_24 : decode cX9_goal 24 = .ok (.bipush (-3), 2) := by decide +kernel
theorem dX9_goal_26 : decode cX9_goal 26 = .ok (.invokevirtual 192, 3) := by decide +kernel
theorem dX9_goal_29 : decode cX9_goal 29 = .ok (.ireturn, 1) := by decide +kernel
theorem dX9_goal_30 : decode cX9_goal 30 = .ok (.aload_n 0, 1) := by decide +kernel
theorem dX9_goal_31 : decode cX9_goal 31 = .ok (.invokevirtual 214, 3) := by decide +kernel
theorem dX9_goal_34 : decode cX9_goal 34 = .ok (.aload_n 0, 1) := by decide +kernel
theorem dX9_goal_35 : decode cX9_goal 35 = .ok (.iload_n 1, 1) := by decide +kernel
theorem dX9_goal_36 : decode cX9_goal 36 = .ok (.aload_n 0, 1) := by decide +kernel
theorem dX9_goal_37 : decode cX9_goal 37 = .ok (.getfield 207, 3) := by decide +kernel
theorem dX9_goal_40 : decode cX9_goal 40 = .ok (.invokevirtual 344, 3) := by decide +kernel
theorem dX9_goal_43 : decode cX9_goal 43 = .ok (.ireturn, 1) := by decide +kernel
theorem dX9_next_0 : decode cX9_next 0 = .ok (.aload_n 0, 1) := by decide +kernel
theorem dX9_next_1 : decode cX9_next 1 = .ok (.iload_n 1, 1) := by decide +kernel
theorem dX9_next_2 : decode cX9_next 2 = .ok (.invokevirtual 329, 3) := by decide +kernel
theorem dX9_next_5 : decode cX9_next 5 = .ok (.ifCond .ne 9, 3) := by decide +kernel
theorem dX9_next_8 : decode cX9_next 8 = .ok (.aload_n 0, 1) := by decide +kernel
theorem dX9_next_9 : decode cX9_next 9 = .ok (.iconst (-1), 1) := by decide +kernel
theorem dX9_next_10 : decode cX9_next 10 = .ok (.invokevirtual 192, 3) := by decide +kernel
theorem dX9_next_13 : decode cX9_next 13 = .ok (.ireturn, 1) := by decide +kernel
theorem dX9_next_14 : decode cX9_next 14 = .ok (.aload_n 0, 1) := by decide +kernel
theorem dX9_next_15 : decode cX9_next 15 = .ok (.getfield 92, 3) := by decide +kernel
theorem dX9_next_18 : decode cX9_next 18 = .ok (.iload_n 1, 1) := by decide +kernel
theorem dX9_next_19 : decode cX9_next 19 = .ok (.iaload, 1) := by decide +kernel
theorem dX9_next_20 : decode cX9_next 20 = .ok (.ifCond .eq 10, 3) := by decide +kernel
theorem dX9_next_23 : decode cX9_next 23 = .ok (.aload_n 0, 1) := by decide +kernel
theorem dX9_next_24 : decode cX9_next 24 = .ok (.bipush (-3), 2) := by decide +kernel
theorem dX9_next_26 : decode cX9_next 26 = .ok (.invokevirtual 192, 3) := by decide +kernel
theorem dX9_next_29 : decode cX9_next 29 = .ok (.ireturn, 1) := by decide +kernel
theorem dX9_next_30 : decode cX9_next 30 = .ok (.aload_n 0, 1) := by decide +kernel
theorem dX9_next_31 : decode cX9_next 31 = .ok (.invokevirtual 214, 3) := by decide +kernel
theorem dX9_next_34 : decode cX9_next 34 = .ok (.aload_n 0, 1) := by decide +kernel
theorem dX9_next_35 : decode cX9_next 35 = .ok (.aload_n 0, 1) := by decide +kernel
theorem dX9_next_36 : decode cX9_next 36 = .ok (.getfield 95, 3) := by decide +kernel
theorem dX9_next_39 : decode cX9_next 39 = .ok (.iload_n 1, 1) := by decide +kernel
theorem dX9_next_40 : decode cX9_next 40 = .ok (.iaload, 1) := by decide +kernel
theorem dX9_next_41 : decode cX9_next 41 = .ok (.aload_n 0, 1) := by decide +kernel
theorem dX9_next_42 : decode cX9_next 42 = .ok (.iload_n 1, 1) := by decide +kernel
theorem dX9_next_43 : decode cX9_next 43 = .ok (.aload_n 0, 1) := by decide +kernel
theorem dX9_next_44 : decode cX9_next 44 = .ok (.getfield 207, 3) := by decide +kernel
theorem dX9_next_47 : decode cX9_next 47 = .ok (.invokevirtual 344, 3) := by decide +kernel
theorem dX9_next_50 : decode cX9_next 50 = .ok (.invokevirtual 347, 3) := by decide +kernel
theorem dX9_next_53 : decode cX9_next 53 = .ok (.ireturn, 1) := by decide +kernel
theorem dX9_traced_0 : decode cX9_traced 0 = .ok (.aload_n 0, 1) := by decide +kernel
theorem dX9_traced_1 : decode cX9_traced 1 = .ok (.getfield 104, 3) := by decide +kernel
theorem dX9_traced_4 : decode cX9_traced 4 = .ok (.iload_n 1, 1) := by decide +kernel
theorem dX9_traced_5 : decode cX9_traced 5 = .ok (.iaload, 1) := by decide +kernel
theorem dX9_traced_6 : decode cX9_traced 6 = .ok (.bipush 40, 2) := by decide +kernel
theorem dX9_traced_8 : decode cX9_traced 8 = .ok (.if_icmp .ge 12, 3) := by decide +kernel
theorem dX9_traced_11 : decode cX9_traced 11 = .ok (.aload_n 0, 1) := by decide +kernel
theorem dX9_traced_12 : decode cX9_traced 12 = .ok (.getfield 104, 3) := by decide +kernel
theorem dX9_traced_15 : decode cX9_traced 15 = .ok (.iload_n 1, 1) := by decide +kernel
theorem dX9_traced_16 : decode cX9_traced 16 = .ok (.iaload, 1) := by decide +kernel
theorem dX9_traced_17 : decode cX9_traced 17 = .ok (.goto 5, 3) := by decide +kernel
theorem dX9_traced_20 : decode cX9_traced 20 = .ok (.bipush 40, 2) := by decide +kernel
theorem dX9_traced_22 : decode cX9_traced 22 = .ok (.ireturn, 1) := by decide +kernel
theorem dX9_trace_0 : decode cX9_trace 0 = .ok (.aload_n 0, 1) := by decide +kernel
theorem dX9_trace_1 : decode cX9_trace 1 = .ok (.iload_n 1, 1) := by decide +kernel
theorem dX9_trace_2 : decode cX9_trace 2 = .ok (.invokevirtual 329, 3) := by decide +kernel
theorem dX9_trace_5 : decode cX9_trace 5 = .ok (.ifCond .ne 9, 3) := by decide +kernel
theorem dX9_trace_8 : decode cX9_trace 8 = .ok (.aload_n 0, 1) := by decide +kernel
theorem dX9_trace_9 : decode cX9_trace 9 = .ok (.iconst (-1), 1) := by decide +kernel
theorem dX9_trace_10 : decode cX9_trace 10 = .ok (.invokevirtual 192, 3) := by decide +kernel
theorem dX9_trace_13 : decode cX9_trace 13 = .ok (.ireturn, 1) := by decide +kernel
theorem dX9_trace_14 : decode cX9_trace 14 = .ok (.iload_n 2, 1) := by decide +kernel
theorem dX9_trace_15 : decode cX9_trace 15 = .ok (.i2l, 1) := by decide +kernel
theorem dX9_trace_16 : decode cX9_trace 16 = .ok (.lconst 0, 1) := by decide +kernel
theorem dX9_trace_17 : decode cX9_trace 17 = .ok (.aload_n 0, 1) := by decide +kernel
theorem dX9_trace_18 : decode cX9_trace 18 = .ok (.iload_n 1, 1) := by decide +kernel
theorem dX9_trace_19 : decode cX9_trace 19 = .ok (.invokevirtual 363, 3) := by decide +kernel
theorem dX9_trace_22 : decode cX9_trace 22 = .ok (.iconst 1, 1) := by decide +kernel
theorem dX9_trace_23 : decode cX9_trace 23 = .ok (.isub, 1) := by decide +kernel
theorem dX9_trace_24 : decode cX9_trace 24 = .ok (.i2l, 1) := by decide +kernel
theorem dX9_trace_25 : decode cX9_trace 25 = .ok (.invokestatic 203, 3) := by decide +kernel
theorem dX9_trace_28 : decode cX9_trace 28 = .ok (.ifCond .eq 17, 3) := by decide +kernel
theorem dX9_trace_31 : decode cX9_trace 31 = .ok (.aload_n 0, 1) := by decide +kernel
theorem dX9_trace_32 : decode cX9_trace 32 = .ok (.getfield 107, 3) := by decide +kernel
theorem dX9_trace_35 : decode cX9_trace 35 = .ok (.bipush 40, 2) := by decide +kernel
theorem dX9_trace_37 : decode cX9_trace 37 = .ok (.iload_n 1, 1) := by decide +kernel
theorem dX9_trace_38 : decode cX9_trace 38 = .ok (.imul, 1) := by decide +kernel
theorem dX9_trace_39 : decode cX9_trace 39 = .ok (.iload_n 2, 1) := by decide +kernel
theorem dX9_trace_40 : decode cX9_trace 40 = .ok (.iadd, 1) := by decide +kernel
theorem dX9_trace_41 : decode cX9_trace 41 = .ok (.iaload, 1) := by decide +kernel
theorem dX9_trace_42 : decode cX9_trace 42 = .ok (.goto 5, 3) := by decide +kernel
theorem dX9_trace_45 : decode cX9_trace 45 = .ok (.bipush (-9), 2) := by decide +kernel
theorem dX9_trace_47 : decode cX9_trace 47 = .ok (.ireturn, 1) := by decide +kernel
theorem dX9_fro_0 : decode cX9_fro 0 = .ok (.aload_n 0, 1) := by decide +kernel
theorem dX9_fro_1 : decode cX9_fro 1 = .ok (.iload_n 1, 1) := by decide +kernel
theorem dX9_fro_2 : decode cX9_fro 2 = .ok (.invokevirtual 329, 3) := by decide +kernel
theorem dX9_fro_5 : decode cX9_fro 5 = .ok (.ifCond .ne 9, 3) := by decide +kernel
theorem dX9_fro_8 : decode cX9_fro 8 = .ok (.aload_n 0, 1) := by decide +kernel
theorem dX9_fro_9 : decode cX9_fro 9 = .ok (.iconst (-1), 1) := by decide +kernel
theorem dX9_fro_10 : decode cX9_fro 10 = .ok (.invokevirtual 192, 3) := by decide +kernel
theorem dX9_fro_13 : decode cX9_fro 13 = .ok (.ireturn, 1) := by decide +kernel
theorem dX9_fro_14 : decode cX9_fro 14 = .ok (.iconst 0, 1) := by decide +kernel
theorem dX9_fro_15 : decode cX9_fro 15 = .ok (.istore_n 2, 1) := by decide +kernel
theorem dX9_fro_16 : decode cX9_fro 16 = .ok (.iload_n 2, 1) := by decide +kernel
theorem dX9_fro_17 : decode cX9_fro 17 = .ok (.iconst 3, 1) := by decide +kernel
theorem dX9_fro_18 : decode cX9_fro 18 = .ok (.iadd, 1) := by decide +kernel
theorem dX9_fro_19 : decode cX9_fro 19 = .ok (.aload_n 0, 1) := by decide +kernel
theorem dX9_fro_20 : decode cX9_fro 20 = .ok (.iload_n 1, 1) := by decide +kernel
theorem dX9_fro_21 : decode cX9_fro 21 = .ok (.invokevirtual 363, 3) := by decide +kernel
theorem dX9_fro_24 : decode cX9_fro 24 = .ok (.if_icmp .ge 54, 3) := by decide +kernel
theorem dX9_fro_27 : decode cX9_fro 27 = .ok (.bipush 40, 2) := by decide +kernel
theorem dX9_fro_29 : decode cX9_fro 29 = .ok (.iload_n 1, 1) := by decide +kernel
theorem dX9_fro_30 : decode cX9_fro 30 = .ok (.imul, 1) := by decide +kernel
theorem dX9_fro_31 : decode cX9_fro 31 = .ok (.iload_n 2, 1) := by decide +kernel
theorem dX9_fro_32 : decode cX9_fro 32 = .ok (.iadd, 1) := by decide +kernel
theorem dX9_fro_33 : decode cX9_fro 33 = .ok (.istore_n 3, 1) := by decide +kernel
theorem dX9_fro_34 : decode cX9_fro 34 = .ok (.aload_n 0, 1) := by decide +kernel
theorem dX9_fro_35 : decode cX9_fro 35 = .ok (.getfield 107, 3) := by decide +kernel
theorem dX9_fro_38 : decode cX9_fro 38 = .ok (.iload_n 3, 1) := by decide +kernel
theorem dX9_fro_39 : decode cX9_fro 39 = .ok (.iaload, 1) := by decide +kernel
theorem dX9_fro_40 : decode cX9_fro 40 = .ok (.aload_n 0, 1) := by decide +kernel
theorem dX9_fro_41 : decode cX9_fro 41 = .ok (.getfield 107, 3) := by decide +kernel
theorem dX9_fro_44 : decode cX9_fro 44 = .ok (.iload_n 3, 1) := by decide +kernel
theorem dX9_fro_45 : decode cX9_fro 45 = .ok (.iconst 2, 1) := by decide +kernel
theorem dX9_fro_46 : decode cX9_fro 46 = .ok (.iadd, 1) := by decide +kernel
theorem dX9_fro_47 : decode cX9_fro 47 = .ok (.iaload, 1) := by decide +kernel
theorem dX9_fro_48 : decode cX9_fro 48 = .ok (.if_icmp .ne 24, 3) := by decide +kernel
theorem dX9_fro_51 : decode cX9_fro 51 = .ok (.aload_n 0, 1) := by decide +kernel
theorem dX9_fro_52 : decode cX9_fro 52 = .ok (.getfield 107, 3) := by decide +kernel
theorem dX9_fro_55 : decode cX9_fro 55 = .ok (.iload_n 3, 1) := by decide +kernel
theorem dX9_fro_56 : decode cX9_fro 56 = .ok (.iconst 1, 1) := by decide +kernel
theorem dX9_fro_57 : decode cX9_fro 57 = .ok (.iadd, 1) := by decide +kernel
theorem dX9_fro_58 : decode cX9_fro 58 = .ok (.iaload, 1) := by decide +kernel
theorem dX9_fro_59 : decode cX9_fro 59 = .ok (.aload_n 0, 1) := by decide +kernel
theorem dX9_fro_60 : decode cX9_fro 60 = .ok (.getfield 107, 3) := by decide +kernel
theorem dX9_fro_63 : decode cX9_fro 63 = .ok (.iload_n 3, 1) := by decide +kernel
theorem dX9_fro_64 : decode cX9_fro 64 = .ok (.iconst 3, 1) := by decide +kernel
theorem dX9_fro_65 : decode cX9_fro 65 = .ok (.iadd, 1) := by decide +kernel
theorem dX9_fro_66 : decode cX9_fro 66 = .ok (.iaload, 1) := by decide +kernel
theorem dX9_fro_67 : decode cX9_fro 67 = .ok (.if_icmp .ne 5, 3) := by decide +kernel
theorem dX9_fro_70 : decode cX9_fro 70 = .ok (.iload_n 2, 1) := by decide +kernel
theorem dX9_fro_71 : decode cX9_fro 71 = .ok (.ireturn, 1) := by decide +kernel
theorem dX9_fro_72 : decode cX9_fro 72 = .ok (.iinc 2 1, 3) := by decide +kernel
theorem dX9_fro_75 : decode cX9_fro 75 = .ok (.goto (-59), 3) := by decide +kernel
theorem dX9_fro_78 : decode cX9_fro 78 = .ok (.bipush (-9), 2) := by decide +kernel
theorem dX9_fro_80 : decode cX9_fro 80 = .ok (.ireturn, 1) := by decide +kernel
theorem dX9_keeps_0 : decode cX9_keeps 0 = .ok (.iconst 0, 1) := by decide +kernel
theorem dX9_keeps_1 : decode cX9_keeps 1 = .ok (.istore_n 1, 1) := by decide +kernel
theorem dX9_keeps_2 : decode cX9_keeps 2 = .ok (.iload_n 1, 1) := by decide +kernel
theorem dX9_keeps_3 : decode cX9_keeps 3 = .ok (.aload_n 0, 1) := by decide +kernel
theorem dX9_keeps_4 : decode cX9_keeps 4 = .ok (.getfield 259, 3) := by decide +kernel
theorem dX9_keeps_7 : decode cX9_keeps 7 = .ok (.if_icmp .ge 93, 3) := by decide +kernel
theorem dX9_keeps_10 : decode cX9_keeps 10 = .ok (.aload_n 0, 1) := by decide +kernel
theorem dX9_keeps_11 : decode cX9_keeps 11 = .ok (.getfield 150, 3) := by decide +kernel
theorem dX9_keeps_14 : decode cX9_keeps 14 = .ok (.iload_n 1, 1) := by decide +kernel
theorem dX9_keeps_15 : decode cX9_keeps 15 = .ok (.aload_n 0, 1) := by decide +kernel
theorem dX9_keeps_16 : decode cX9_keeps 16 = .ok (.getfield 92, 3) := by decide +kernel
theorem dX9_keeps_19 : decode cX9_keeps 19 = .ok (.iload_n 1, 1) := by decide +kernel
theorem dX9_keeps_20 : decode cX9_keeps 20 = .ok (.iaload, 1) := by decide +kernel
theorem dX9_keeps_21 : decode cX9_keeps 21 = .ok (.iastore, 1) := by decide +kernel
theorem dX9_keeps_22 : decode cX9_keeps 22 = .ok (.aload_n 0, 1) := by decide +kernel
theorem dX9_keeps_23 : decode cX9_keeps 23 = .ok (.getfield 153, 3) := by decide +kernel
theorem dX9_keeps_26 : decode cX9_keeps 26 = .ok (.iload_n 1, 1) := by decide +kernel
theorem dX9_keeps_27 : decode cX9_keeps 27 = .ok (.aload_n 0, 1) := by decide +kernel
theorem dX9_keeps_28 : decode cX9_keeps 28 = .ok (.getfield 95, 3) := by decide +kernel
theorem dX9_keeps_31 : decode cX9_keeps 31 = .ok (.iload_n 1, 1) := by decide +kernel
theorem dX9_keeps_32 : decode cX9_keeps 32 = .ok (.iaload, 1) := by decide +kernel
theorem dX9_keeps_33 : decode cX9_keeps 33 = .ok (.iastore, 1) := by decide +kernel
theorem dX9_keeps_34 : decode cX9_keeps 34 = .ok (.aload_n 0, 1) := by decide +kernel
theorem dX9_keeps_35 : decode cX9_keeps 35 = .ok (.getfield 156, 3) := by decide +kernel
theorem dX9_keeps_38 : decode cX9_keeps 38 = .ok (.iload_n 1, 1) := by decide +kernel
theorem dX9_keeps_39 : decode cX9_keeps 39 = .ok (.aload_n 0, 1) := by decide +kernel
theorem dX9_keeps_40 : decode cX9_keeps 40 = .ok (.getfield 98, 3) := by decide +kernel
theorem dX9_keeps_43 : decode cX9_keeps 43 = .ok (.iload_n 1, 1) := by decide +kernel
theorem dX9_keeps_44 : decode cX9_keeps 44 = .ok (.iaload, 1) := by decide +kernel
theorem dX9_keeps_45 : decode cX9_keeps 45 = .ok (.iastore, 1) := by decide +kernel
theorem dX9_keeps_46 : decode cX9_keeps 46 = .ok (.aload_n 0, 1) := by decide +kernel
theorem dX9_keeps_47 : decode cX9_keeps 47 = .ok (.getfield 159, 3) := by decide +kernel
theorem dX9_keeps_50 : decode cX9_keeps 50 = .ok (.iload_n 1, 1) := by decide +kernel
theorem dX9_keeps_51 : decode cX9_keeps 51 = .ok (.aload_n 0, 1) := by decide +kernel
theorem dX9_keeps_52 : decode cX9_keeps 52 = .ok (.getfield 101, 3) := by decide +kernel
theorem dX9_keeps_55 : decode cX9_keeps 55 = .ok (.iload_n 1, 1) := by decide +kernel
theorem dX9_keeps_56 : decode cX9_keeps 56 = .ok (.iaload, 1) := by decide +kernel
theorem dX9_keeps_57 : decode cX9_keeps 57 = .ok (.iastore, 1) := by decide +kernel
theorem dX9_keeps_58 : decode cX9_keeps 58 = .ok (.aload_n 0, 1) := by decide +kernel
theorem dX9_keeps_59 : decode cX9_keeps 59 = .ok (.getfield 162, 3) := by decide +kernel
theorem dX9_keeps_62 : decode cX9_keeps 62 = .ok (.iload_n 1, 1) := by decide +kernel
theorem dX9_keeps_63 : decode cX9_keeps 63 = .ok (.aload_n 0, 1) := by decide +kernel
theorem dX9_keeps_64 : decode cX9_keeps 64 = .ok (.getfield 104, 3) := by decide +kernel
theorem dX9_keeps_67 : decode cX9_keeps 67 = .ok (.iload_n 1, 1) := by decide +kernel
theorem dX9_keeps_68 : decode cX9_keeps 68 = .ok (.iaload, 1) := by decide +kernel
theorem dX9_keeps_69 : decode cX9_keeps 69 = .ok (.iastore, 1) := by decide +kernel
theorem dX9_keeps_70 : decode cX9_keeps 70 = .ok (.aload_n 0, 1) := by decide +kernel
theorem dX9_keeps_71 : decode cX9_keeps 71 = .ok (.getfield 165, 3) := by decide +kernel
theorem dX9_keeps_74 : decode cX9_keeps 74 = .ok (.iload_n 1, 1) := by decide +kernel
theorem dX9_keeps_75 : decode cX9_keeps 75 = .ok (.aload_n 0, 1) := by decide +kernel
theorem dX9_keeps_76 : decode cX9_keeps 76 = .ok (.getfield 110, 3) := by decide +kernel
theorem dX9_keeps_79 : decode cX9_keeps 79 = .ok (.iload_n 1, 1) := by decide +kernel
theorem dX9_keeps_80 : decode cX9_keeps 80 = .ok (.baload, 1) := by decide +kernel
theorem dX9_keeps_81 : decode cX9_keeps 81 = .ok (.bastore, 1) := by decide +kernel
theorem dX9_keeps_82 : decode cX9_keeps 82 = .ok (.aload_n 0, 1) := by decide +kernel
theorem dX9_keeps_83 : decode cX9_keeps 83 = .ok (.getfield 168, 3) := by decide +kernel
theorem dX9_keeps_86 : decode cX9_keeps 86 = .ok (.iload_n 1, 1) := by decide +kernel
theorem dX9_keeps_87 : decode cX9_keeps 87 = .ok (.aload_n 0, 1) := by decide +kernel
theorem dX9_keeps_88 : decode cX9_keeps 88 = .ok (.getfield 113, 3) := by decide +kernel
theorem dX9_keeps_91 : decode cX9_keeps 91 = .ok (.iload_n 1, 1) := by decide +kernel
