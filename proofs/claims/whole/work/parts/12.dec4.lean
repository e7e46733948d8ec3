theorem dX9_no_4 : decode cX9_no 4 = .ok (.iload_n 1, 1) := by decide +kernel
theorem dX9_no_5 : decode cX9_no 5 = .ok (.ineg, 1) := by decide +kernel
theorem dX9_no_6 : decode cX9_no 6 = .ok (.dup2, 1) := by decide +kernel
theorem dX9_no_7 : decode cX9_no 7 = .ok (.iaload, 1) := by decide +kernel
theorem dX9_no_8 : decode cX9_no 8 = .ok (.iconst 1, 1) := by decide +kernel
theorem dX9_no_9 : decode cX9_no 9 = .ok (.iadd, 1) := by decide +kernel
theorem dX9_no_10 : decode cX9_no 10 = .ok (.iastore, 1) := by decide +kernel
theorem dX9_no_11 : decode cX9_no 11 = .ok (.iload_n 1, 1) := by decide +kernel
theorem dX9_no_12 : decode cX9_no 12 = .ok (.ireturn, 1) := by decide +kernel
theorem dX9_isIn_0 : decode cX9_isIn 0 = .ok (.lload_n 0, 1) := by decide +kernel
theorem dX9_isIn_1 : decode cX9_isIn 1 = .ok (.lload_n 2, 1) := by decide +kernel
theorem dX9_isIn_2 : decode cX9_isIn 2 = .ok (.lcmp, 1) := by decide +kernel
theorem dX9_isIn_3 : decode cX9_isIn 3 = .ok (.ifCond .lt 14, 3) := by decide +kernel
theorem dX9_isIn_6 : decode cX9_isIn 6 = .ok (.lload_n 0, 1) := by decide +kernel
theorem dX9_isIn_7 : decode cX9_isIn 7 = .ok (.lload 4, 2) := by decide +kernel
theorem dX9_isIn_9 : decode cX9_isIn 9 = .ok (.lcmp, 1) := by decide +kernel
theorem dX9_isIn_10 : decode cX9_isIn 10 = .ok (.ifCond .gt 7, 3) := by decide +kernel
theorem dX9_isIn_13 : decode cX9_isIn 13 = .ok (.iconst 1, 1) := by decide +kernel
theorem dX9_isIn_14 : decode cX9_isIn 14 = .ok (.goto 4, 3) := by decide +kernel
theorem dX9_isIn_17 : decode cX9_isIn 17 = .ok (.iconst 0, 1) := by decide +kernel
theorem dX9_isIn_18 : decode cX9_isIn 18 = .ok (.ireturn, 1) := by decide +kernel
theorem dX9_out_0 : decode cX9_out 0 = .ok (.lload_n 0, 1) := by decide +kernel
theorem dX9_out_1 : decode cX9_out 1 = .ok (.lload_n 2, 1) := by decide +kernel
theorem dX9_out_2 : decode cX9_out 2 = .ok (.lcmp, 1) := by decide +kernel
theorem dX9_out_3 : decode cX9_out 3 = .ok (.ifCond .ge 8, 3) := by decide +kernel
theorem dX9_out_6 : decode cX9_out 6 = .ok (.bipush (-4), 2) := by decide +kernel
theorem dX9_out_8 : decode cX9_out 8 = .ok (.goto 16, 3) := by decide +kernel
theorem dX9_out_11 : decode cX9_out 11 = .ok (.lload_n 0, 1) := by decide +kernel
theorem dX9_out_12 : decode cX9_out 12 = .ok (.lload 4, 2) := by decide +kernel
theorem dX9_out_14 : decode cX9_out 14 = .ok (.lcmp, 1) := by decide +kernel
theorem dX9_out_15 : decode cX9_out 15 = .ok (.ifCond .le 8, 3) := by decide +kernel
theorem dX9_out_18 : decode cX9_out 18 = .ok (.bipush (-6), 2) := by decide +kernel
theorem dX9_out_20 : decode cX9_out 20 = .ok (.goto 4, 3) := by decide +kernel
theorem dX9_out_23 : decode cX9_out 23 = .ok (.iconst 0, 1) := by decide +kernel
theorem dX9_out_24 : decode cX9_out 24 = .ok (.ireturn, 1) := by decide +kernel
theorem dX9_isOffice_0 : decode cX9_isOffice 0 = .ok (.iload_n 1, 1) := by decide +kernel
theorem dX9_isOffice_1 : decode cX9_isOffice 1 = .ok (.ifCond .lt 15, 3) := by decide +kernel
theorem dX9_isOffice_4 : decode cX9_isOffice 4 = .ok (.iload_n 1, 1) := by decide +kernel
theorem dX9_isOffice_5 : decode cX9_isOffice 5 = .ok (.aload_n 0, 1) := by decide +kernel
theorem dX9_isOffice_6 : decode cX9_isOffice 6 = .ok (.getfield 183, 3) := by decide +kernel
theorem dX9_isOffice_9 : decode cX9_isOffice 9 = .ok (.if_icmp .ge 7, 3) := by decide +kernel
theorem dX9_isOffice_12 : decode cX9_isOffice 12 = .ok (.iconst 1, 1) := by decide +kernel
theorem dX9_isOffice_13 : decode cX9_isOffice 13 = .ok (.goto 4, 3) := by decide +kernel
theorem dX9_isOffice_16 : decode cX9_isOffice 16 = .ok (.iconst 0, 1) := by decide +kernel
theorem dX9_isOffice_17 : decode cX9_isOffice 17 = .ok (.ireturn, 1) := by decide +kernel
theorem dX9_office_0 : decode cX9_office 0 = .ok (.iload_n 1, 1) := by decide +kernel
theorem dX9_office_1 : decode cX9_office 1 = .ok (.i2l, 1) := by decide +kernel
theorem dX9_office_2 : decode cX9_office 2 = .ok (.lconst 0, 1) := by decide +kernel
theorem dX9_office_3 : decode cX9_office 3 = .ok (.ldc2_w 186, 3) := by decide +kernel
theorem dX9_office_6 : decode cX9_office 6 = .ok (.invokestatic 188, 3) := by decide +kernel
theorem dX9_office_9 : decode cX9_office 9 = .ok (.istore_n 3, 1) := by decide +kernel
theorem dX9_office_10 : decode cX9_office 10 = .ok (.iload_n 3, 1) := by decide +kernel
theorem dX9_office_11 : decode cX9_office 11 = .ok (.ifCond .ne 15, 3) := by decide +kernel
theorem dX9_office_14 : decode cX9_office 14 = .ok (.aload_n 0, 1) := by decide +kernel
theorem dX9_office_15 : decode cX9_office 15 = .ok (.getfield 183, 3) := by decide +kernel
theorem dX9_office_18 : decode cX9_office 18 = .ok (.bipush 12, 2) := by decide +kernel
theorem dX9_office_20 : decode cX9_office 20 = .ok (.if_icmp .ne 6, 3) := by decide +kernel
theorem dX9_office_23 : decode cX9_office 23 = .ok (.bipush (-6), 2) := by decide +kernel
theorem dX9_office_25 : decode cX9_office 25 = .ok (.istore_n 3, 1) := by decide +kernel
theorem dX9_office_26 : decode cX9_office 26 = .ok (.iload_n 3, 1) := by decide +kernel
theorem dX9_office_27 : decode cX9_office 27 = .ok (.ifCond .eq 9, 3) := by decide +kernel
theorem dX9_office_30 : decode cX9_office 30 = .ok (.aload_n 0, 1) := by decide +kernel
theorem dX9_office_31 : decode cX9_office 31 = .ok (.iload_n 3, 1) := by decide +kernel
theorem dX9_office_32 : decode cX9_office 32 = .ok (.invokevirtual 192, 3) := by decide +kernel
theorem dX9_office_35 : decode cX9_office 35 = .ok (.ireturn, 1) := by decide +kernel
theorem dX9_office_36 : decode cX9_office 36 = .ok (.aload_n 0, 1) := by decide +kernel
theorem dX9_office_37 : decode cX9_office 37 = .ok (.getfield 13, 3) := by decide +kernel
theorem dX9_office_40 : decode cX9_office 40 = .ok (.aload_n 0, 1) := by decide +kernel
theorem dX9_office_41 : decode cX9_office 41 = .ok (.getfield 183, 3) := by decide +kernel
theorem dX9_office_44 : decode cX9_office 44 = .ok (.iload_n 1, 1) := by decide +kernel
theorem dX9_office_45 : decode cX9_office 45 = .ok (.iastore, 1) := by decide +kernel
theorem dX9_office_46 : decode cX9_office 46 = .ok (.aload_n 0, 1) := by decide +kernel
theorem dX9_office_47 : decode cX9_office 47 = .ok (.getfield 43, 3) := by decide +kernel
theorem dX9_office_50 : decode cX9_office 50 = .ok (.aload_n 0, 1) := by decide +kernel
theorem dX9_office_51 : decode cX9_office 51 = .ok (.getfield 183, 3) := by decide +kernel
theorem dX9_office_54 : decode cX9_office 54 = .ok (.iload_n 2, 1) := by decide +kernel
theorem dX9_office_55 : decode cX9_office 55 = .ok (.bastore, 1) := by decide +kernel
theorem dX9_office_56 : decode cX9_office 56 = .ok (.aload_n 0, 1) := by decide +kernel
theorem dX9_office_57 : decode cX9_office 57 = .ok (.dup, 1) := by decide +kernel
theorem dX9_office_58 : decode cX9_office 58 = .ok (.getfield 183, 3) := by decide +kernel
theorem dX9_office_61 : decode cX9_office 61 = .ok (.iconst 1, 1) := by decide +kernel
theorem dX9_office_62 : decode cX9_office 62 = .ok (.iadd, 1) := by decide +kernel
theorem dX9_office_63 : decode cX9_office 63 = .ok (.putfield 183, 3) := by decide +kernel
theorem dX9_office_66 : decode cX9_office 66 = .ok (.aload_n 0, 1) := by decide +kernel
theorem dX9_office_67 : decode cX9_office 67 = .ok (.getfield 183, 3) := by decide +kernel
theorem dX9_office_70 : decode cX9_office 70 = .ok (.iconst 1, 1) := by decide +kernel
theorem dX9_office_71 : decode cX9_office 71 = .ok (.isub, 1) := by decide +kernel
theorem dX9_office_72 : decode cX9_office 72 = .ok (.ireturn, 1) := by decide +kernel
theorem dX9_staff_0 : decode cX9_staff 0 = .ok (.aload_n 0, 1) := by decide +kernel
theorem dX9_staff_1 : decode cX9_staff 1 = .ok (.iload_n 1, 1) := by decide +kernel
theorem dX9_staff_2 : decode cX9_staff 2 = .ok (.invokevirtual 196, 3) := by decide +kernel
theorem dX9_staff_5 : decode cX9_staff 5 = .ok (.ifCond .ne 9, 3) := by decide +kernel
theorem dX9_staff_8 : decode cX9_staff 8 = .ok (.aload_n 0, 1) := by decide +kernel
theorem dX9_staff_9 : decode cX9_staff 9 = .ok (.iconst (-1), 1) := by decide +kernel
theorem dX9_staff_10 : decode cX9_staff 10 = .ok (.invokevirtual 192, 3) := by decide +kernel
theorem dX9_staff_13 : decode cX9_staff 13 = .ok (.ireturn, 1) := by decide +kernel
theorem dX9_staff_14 : decode cX9_staff 14 = .ok (.iload_n 2, 1) := by decide +kernel
theorem dX9_staff_15 : decode cX9_staff 15 = .ok (.i2l, 1) := by decide +kernel
theorem dX9_staff_16 : decode cX9_staff 16 = .ok (.lconst 0, 1) := by decide +kernel
theorem dX9_staff_17 : decode cX9_staff 17 = .ok (.ldc2_w 186, 3) := by decide +kernel
theorem dX9_staff_20 : decode cX9_staff 20 = .ok (.invokestatic 188, 3) := by decide +kernel
theorem dX9_staff_23 : decode cX9_staff 23 = .ok (.istore 4, 2) := by decide +kernel
theorem dX9_staff_25 : decode cX9_staff 25 = .ok (.iload 4, 2) := by decide +kernel
theorem dX9_staff_27 : decode cX9_staff 27 = .ok (.ifCond .eq 10, 3) := by decide +kernel
theorem dX9_staff_30 : decode cX9_staff 30 = .ok (.aload_n 0, 1) := by decide +kernel
theorem dX9_staff_31 : decode cX9_staff 31 = .ok (.iload 4, 2) := by decide +kernel
theorem dX9_staff_33 : decode cX9_staff 33 = .ok (.invokevirtual 192, 3) := by decide +kernel
theorem dX9_staff_36 : decode cX9_staff 36 = .ok (.ireturn, 1) := by decide +kernel
theorem dX9_staff_37 : decode cX9_staff 37 = .ok (.aload_n 0, 1) := by decide +kernel
theorem dX9_staff_38 : decode cX9_staff 38 = .ok (.getfield 13, 3) := by decide +kernel
theorem dX9_staff_41 : decode cX9_staff 41 = .ok (.iload_n 1, 1) := by decide +kernel
theorem dX9_staff_42 : decode cX9_staff 42 = .ok (.iaload, 1) := by decide +kernel
theorem dX9_staff_43 : decode cX9_staff 43 = .ok (.istore 5, 2) := by decide +kernel
theorem dX9_staff_45 : decode cX9_staff 45 = .ok (.aload_n 0, 1) := by decide +kernel
theorem dX9_staff_46 : decode cX9_staff 46 = .ok (.getfield 13, 3) := by decide +kernel
theorem dX9_staff_49 : decode cX9_staff 49 = .ok (.iload_n 1, 1) := by decide +kernel
theorem dX9_staff_50 : decode cX9_staff 50 = .ok (.iload_n 2, 1) := by decide +kernel
theorem dX9_staff_51 : decode cX9_staff 51 = .ok (.iastore, 1) := by decide +kernel
theorem dX9_staff_52 : decode cX9_staff 52 = .ok (.aload_n 0, 1) := by decide +kernel
theorem dX9_staff_53 : decode cX9_staff 53 = .ok (.getfield 43, 3) := by decide +kernel
theorem dX9_staff_56 : decode cX9_staff 56 = .ok (.iload_n 1, 1) := by decide +kernel
theorem dX9_staff_57 : decode cX9_staff 57 = .ok (.iload_n 3, 1) := by decide +kernel
theorem dX9_staff_58 : decode cX9_staff 58 = .ok (.bastore, 1) := by decide +kernel
theorem dX9_staff_59 : decode cX9_staff 59 = .ok (.iload 5, 2) := by decide +kernel
theorem dX9_staff_61 : decode cX9_staff 61 = .ok (.ireturn, 1) := by decide +kernel
theorem dX9_way_0 : decode cX9_way 0 = .ok (.aload_n 0, 1) := by decide +kernel
theorem dX9_way_1 : decode cX9_way 1 = .ok (.iload_n 1, 1) := by decide +kernel
theorem dX9_way_2 : decode cX9_way 2 = .ok (.invokevirtual 196, 3) := by decide +kernel
theorem dX9_way_5 : decode cX9_way 5 = .ok (.ifCond .eq 16, 3) := by decide +kernel
theorem dX9_way_8 : decode cX9_way 8 = .ok (.aload_n 0, 1) := by decide +kernel
theorem dX9_way_9 : decode cX9_way 9 = .ok (.iload_n 2, 1) := by decide +kernel
theorem dX9_way_10 : decode cX9_way 10 = .ok (.invokevirtual 196, 3) := by decide +kernel
theorem dX9_way_13 : decode cX9_way 13 = .ok (.ifCond .eq 8, 3) := by decide +kernel
theorem dX9_way_16 : decode cX9_way 16 = .ok (.iload_n 1, 1) := by decide +kernel
theorem dX9_way_17 : decode cX9_way 17 = .ok (.iload_n 2, 1) := by decide +kernel
theorem dX9_way_18 : decode cX9_way 18 = .ok (.if_icmp .ne 9, 3) := by decide +kernel
theorem dX9_way_21 : decode cX9_way 21 = .ok (.aload_n 0, 1) := by decide +kernel
theorem dX9_way_22 : decode cX9_way 22 = .ok (.iconst (-1), 1) := by decide +kernel
theorem dX9_way_23 : decode cX9_way 23 = .ok (.invokevirtual 192, 3) := by decide +kernel
theorem dX9_way_26 : decode cX9_way 26 = .ok (.ireturn, 1) := by decide +kernel
theorem dX9_way_27 : decode cX9_way 27 = .ok (.iload_n 3, 1) := by decide +kernel
theorem dX9_way_28 : decode cX9_way 28 = .ok (.iconst 1, 1) := by decide +kernel
theorem dX9_way_29 : decode cX9_way 29 = .ok (.if_icmp .lt 14, 3) := by decide +kernel
theorem dX9_way_32 : decode cX9_way 32 = .ok (.iload 4, 2) := by decide +kernel
theorem dX9_way_34 : decode cX9_way 34 = .ok (.ifCond .lt 9, 3) := by decide +kernel
theorem dX9_way_37 : decode cX9_way 37 = .ok (.iload 5, 2) := by decide +kernel
theorem dX9_way_39 : decode cX9_way 39 = .ok (.iconst 1, 1) := by decide +kernel
theorem dX9_way_40 : decode cX9_way 40 = .ok (.if_icmp .ge 8, 3) := by decide +kernel
theorem dX9_way_43 : decode cX9_way 43 = .ok (.bipush (-4), 2) := by decide +kernel
theorem dX9_way_45 : decode cX9_way 45 = .ok (.goto 39, 3) := by decide +kernel
theorem dX9_way_48 : decode cX9_way 48 = .ok (.iload_n 3, 1) := by decide +kernel
theorem dX9_way_49 : decode cX9_way 49 = .ok (.bipush 48, 2) := by decide +kernel
theorem dX9_way_51 : decode cX9_way 51 = .ok (.if_icmp .gt 27, 3) := by decide +kernel
theorem dX9_way_54 : decode cX9_way 54 = .ok (.iload 4, 2) := by decide +kernel
theorem dX9_way_56 : decode cX9_way 56 = .ok (.sipush 2000, 3) := by decide +kernel
theorem dX9_way_59 : decode cX9_way 59 = .ok (.if_icmp .gt 19, 3) := by decide +kernel
theorem dX9_way_62 : decode cX9_way 62 = .ok (.iload 5, 2) := by decide +kernel
theorem dX9_way_64 : decode cX9_way 64 = .ok (.bipush 48, 2) := by decide +kernel
theorem dX9_way_66 : decode cX9_way 66 = .ok (.if_icmp .gt 12, 3) := by decide +kernel
theorem dX9_way_69 : decode cX9_way 69 = .ok (.aload_n 0, 1) := by decide +kernel
theorem dX9_way_70 : decode cX9_way 70 = .ok (.getfield 200, 3) := by decide +kernel
theorem dX9_way_73 : decode cX9_way 73 = .ok (.bipush 24, 2) := by decide +kernel
theorem dX9_way_75 : decode cX9_way 75 = .ok (.if_icmp .ne 8, 3) := by decide +kernel
theorem dX9_way_78 : decode cX9_way 78 = .ok (.bipush (-6), 2) := by decide +kernel
theorem dX9_way_80 : decode cX9_way 80 = .ok (.goto 4, 3) := by decide +kernel
theorem dX9_way_83 : decode cX9_way 83 = .ok (.iconst 0, 1) := by decide +kernel
theorem dX9_way_84 : decode cX9_way 84 = .ok (.istore 6, 2) := by decide +kernel
theorem dX9_way_86 : decode cX9_way 86 = .ok (.iload 6, 2) := by decide +kernel
theorem dX9_way_88 : decode cX9_way 88 = .ok (.ifCond .eq 10, 3) := by decide +kernel
theorem dX9_way_91 : decode cX9_way 91 = .ok (.aload_n 0, 1) := by decide +kernel
theorem dX9_way_92 : decode cX9_way 92 = .ok (.iload 6, 2) := by decide +kernel
theorem dX9_way_94 : decode cX9_way 94 = .ok (.invokevirtual 192, 3) := by decide +kernel
theorem dX9_way_97 : decode cX9_way 97 = .ok (.ireturn, 1) := by decide +kernel
theorem dX9_way_98 : decode cX9_way 98 = .ok (.aload_n 0, 1) := by decide +kernel
theorem dX9_way_99 : decode cX9_way 99 = .ok (.getfield 16, 3) := by decide +kernel
theorem dX9_way_102 : decode cX9_way 102 = .ok (.aload_n 0, 1) := by decide +kernel
theorem dX9_way_103 : decode cX9_way 103 = .ok (.getfield 200, 3) := by decide +kernel
theorem dX9_way_106 : decode cX9_way 106 = .ok (.iload_n 1, 1) := by decide +kernel
theorem dX9_way_107 : decode cX9_way 107 = .ok (.iastore, 1) := by decide +kernel
theorem dX9_way_108 : decode cX9_way 108 = .ok (.aload_n 0, 1) := by decide +kernel
theorem dX9_way_109 : decode cX9_way 109 = .ok (.getfield 19, 3) := by decide +kernel
theorem dX9_way_112 : decode cX9_way 112 = .ok (.aload_n 0, 1) := by decide +kernel
theorem dX9_way_113 : decode cX9_way 113 = .ok (.getfield 200, 3) := by decide +kernel
theorem dX9_way_116 : decode cX9_way 116 = .ok (.iload_n 2, 1) := by decide +kernel
theorem dX9_way_117 : decode cX9_way 117 = .ok (.iastore, 1) := by decide +kernel
theorem dX9_way_118 : decode cX9_way 118 = .ok (.aload_n 0, 1) := by decide +kernel
theorem dX9_way_119 : decode cX9_way 119 = .ok (.getfield 22, 3) := by decide +kernel
theorem dX9_way_122 : decode cX9_way 122 = .ok (.aload_n 0, 1) := by decide +kernel
theorem dX9_way_123 : decode cX9_way 123 = .ok (.getfield 200, 3) := by decide +kernel
theorem dX9_way_126 : decode cX9_way 126 = .ok (.iload_n 3, 1) := by decide +kernel
theorem dX9_way_127 : decode cX9_way 127 = .ok (.iastore, 1) := by decide +kernel
theorem dX9_way_128 : decode cX9_way 128 = .ok (.aload_n 0, 1) := by decide +kernel
theorem dX9_way_129 : decode cX9_way 129 = .ok (.getfield 25, 3) := by decide +kernel
theorem dX9_way_132 : decode cX9_way 132 = .ok (.aload_n 0, 1) := by decide +kernel
theorem dX9_way_133 : decode cX9_way 133 = .ok (.getfield 200, 3) := by decide +kernel
theorem dX9_way_136 : decode cX9_way 136 = .ok (.iload 4, 2) := by decide +kernel
theorem dX9_way_138 : decode cX9_way 138 = .ok (.iastore, 1) := by decide +kernel
theorem dX9_way_139 : decode cX9_way 139 = .ok (.aload_n 0, 1) := by decide +kernel
theorem dX9_way_140 : decode cX9_way 140 = .ok (.getfield 28, 3) := by decide +kernel
theorem dX9_way_143 : decode cX9_way 143 = .ok (.aload_n 0, 1) := by decide +kernel
theorem dX9_way_144 : decode cX9_way 144 = .ok (.getfield 200, 3) := by decide +kernel
theorem dX9_way_147 : decode cX9_way 147 = .ok (.iload 5, 2) := by decide +kernel
theorem dX9_way_149 : decode cX9_way 149 = .ok (.iastore, 1) := by decide +kernel
theorem dX9_way_150 : decode cX9_way 150 = .ok (.aload_n 0, 1) := by decide +kernel
theorem dX9_way_151 : decode cX9_way 151 = .ok (.dup, 1) := by decide +kernel
theorem dX9_way_152 : decode cX9_way 152 = .ok (.getfield 200, 3) := by decide +kernel
theorem dX9_way_155 : decode cX9_way 155 = .ok (.iconst 1, 1) := by decide +kernel
theorem dX9_way_156 : decode cX9_way 156 = .ok (.iadd, 1) := by decide +kernel
theorem dX9_way_157 : decode cX9_way 157 = .ok (.putfield 200, 3) := by decide +kernel
theorem dX9_way_160 : decode cX9_way 160 = .ok (.aload_n 0, 1) := by decide +kernel
theorem dX9_way_161 : decode cX9_way 161 = .ok (.getfield 200, 3) := by decide +kernel
theorem dX9_way_164 : decode cX9_way 164 = .ok (.iconst 1, 1) := by decide +kernel
theorem dX9_way_165 : decode cX9_way 165 = .ok (.isub, 1) := by decide +kernel
theorem dX9_way_166 : decode cX9_way 166 = .ok (.ireturn, 1) := by decide +kernel
theorem dX9_shut_0 : decode cX9_shut 0 = .ok (.iload_n 1, 1) := by decide +kernel
theorem dX9_shut_1 : decode cX9_shut 1 = .ok (.i2l, 1) := by decide +kernel
theorem dX9_shut_2 : decode cX9_shut 2 = .ok (.lconst 0, 1) := by decide +kernel
theorem dX9_shut_3 : decode cX9_shut 3 = .ok (.aload_n 0, 1) := by decide +kernel
theorem dX9_shut_4 : decode cX9_shut 4 = .ok (.getfield 200, 3) := by decide +kernel
theorem dX9_shut_7 : decode cX9_shut 7 = .ok (.iconst 1, 1) := by decide +kernel
theorem dX9_shut_8 : decode cX9_shut 8 = .ok (.isub, 1) := by decide +kernel
theorem dX9_shut_9 : decode cX9_shut 9 = .ok (.i2l, 1) := by decide +kernel
theorem dX9_shut_10 : decode cX9_shut 10 = .ok (.invokestatic 203, 3) := by decide +kernel
theorem dX9_shut_13 : decode cX9_shut 13 = .ok (.ifCond .ne 9, 3) := by decide +kernel
theorem dX9_shut_16 : decode cX9_shut 16 = .ok (.aload_n 0, 1) := by decide +kernel
theorem dX9_shut_17 : decode cX9_shut 17 = .ok (.iconst (-1), 1) := by decide +kernel
theorem dX9_shut_18 : decode cX9_shut 18 = .ok (.invokevirtual 192, 3) := by decide +kernel
theorem dX9_shut_21 : decode cX9_shut 21 = .ok (.ireturn, 1) := by decide +kernel
theorem dX9_shut_22 : decode cX9_shut 22 = .ok (.iload_n 2, 1) := by decide +kernel
theorem dX9_shut_23 : decode cX9_shut 23 = .ok (.aload_n 0, 1) := by decide +kernel
theorem dX9_shut_24 : decode cX9_shut 24 = .ok (.getfield 207, 3) := by decide +kernel
theorem dX9_shut_27 : decode cX9_shut 27 = .ok (.if_icmp .lt 8, 3) := by decide +kernel
theorem dX9_shut_30 : decode cX9_shut 30 = .ok (.iload_n 3, 1) := by decide +kernel
theorem dX9_shut_31 : decode cX9_shut 31 = .ok (.iload_n 2, 1) := by decide +kernel
theorem dX9_shut_32 : decode cX9_shut 32 = .ok (.if_icmp .ge 8, 3) := by decide +kernel
theorem dX9_shut_35 : decode cX9_shut 35 = .ok (.bipush (-4), 2) := by decide +kernel
theorem dX9_shut_37 : decode cX9_shut 37 = .ok (.goto 32, 3) := by decide +kernel
theorem dX9_shut_40 : decode cX9_shut 40 = .ok (.iload_n 2, 1) := by decide +kernel
theorem dX9_shut_41 : decode cX9_shut 41 = .ok (.sipush 2000, 3) := by decide +kernel
theorem dX9_shut_44 : decode cX9_shut 44 = .ok (.if_icmp .gt 19, 3) := by decide +kernel
theorem dX9_shut_47 : decode cX9_shut 47 = .ok (.iload_n 3, 1) := by decide +kernel
theorem dX9_shut_48 : decode cX9_shut 48 = .ok (.sipush 2000, 3) := by decide +kernel
theorem dX9_shut_51 : decode cX9_shut 51 = .ok (.if_icmp .gt 12, 3) := by decide +kernel
theorem dX9_shut_54 : decode cX9_shut 54 = .ok (.aload_n 0, 1) := by decide +kernel
theorem dX9_shut_55 : decode cX9_shut 55 = .ok (.getfield 210, 3) := by decide +kernel
theorem dX9_shut_58 : decode cX9_shut 58 = .ok (.bipush 40, 2) := by decide +kernel
theorem dX9_shut_60 : decode cX9_shut 60 = .ok (.if_icmp .ne 8, 3) := by decide +kernel
theorem dX9_shut_63 : decode cX9_shut 63 = .ok (.bipush (-6), 2) := by decide +kernel
theorem dX9_shut_65 : decode cX9_shut 65 = .ok (.goto 4, 3) := by decide +kernel
theorem dX9_shut_68 : decode cX9_shut 68 = .ok (.iconst 0, 1) := by decide +kernel
theorem dX9_shut_69 : decode cX9_shut 69 = .ok (.istore 4, 2) := by decide +kernel
theorem dX9_shut_71 : decode cX9_shut 71 = .ok (.iload 4, 2) := by decide +kernel
theorem dX9_shut_73 : decode cX9_shut 73 = .ok (.ifCond .eq 10, 3) := by decide +kernel
theorem dX9_shut_76 : decode cX9_shut 76 = .ok (.aload_n 0, 1) := by decide +kernel
theorem dX9_shut_77 : decode cX9_shut 77 = .ok (.iload 4, 2) := by decide +kernel
theorem dX9_shut_79 : decode cX9_shut 79 = .ok (.invokevirtual 192, 3) := by decide +kernel
theorem dX9_shut_82 : decode cX9_shut 82 = .ok (.ireturn, 1) := by decide +kernel
theorem dX9_shut_83 : decode cX9_shut 83 = .ok (.aload_n 0, 1) := by decide +kernel
theorem dX9_shut_84 : decode cX9_shut 84 = .ok (.getfield 31, 3) := by decide +kernel
theorem dX9_shut_87 : decode cX9_shut 87 = .ok (.aload_n 0, 1) := by decide +kernel
theorem dX9_shut_88 : decode cX9_shut 88 = .ok (.getfield 210, 3) := by decide +kernel
theorem dX9_shut_91 : decode cX9_shut 91 = .ok (.iload_n 1, 1) := by decide +kernel
theorem dX9_shut_92 : decode cX9_shut 92 = .ok (.iastore, 1) := by decide +kernel
theorem dX9_shut_93 : decode cX9_shut 93 = .ok (.aload_n 0, 1) := by decide +kernel
theorem dX9_shut_94 : decode cX9_shut 94 = .ok (.getfield 34, 3) := by decide +kernel
theorem dX9_shut_97 : decode cX9_shut 97 = .ok (.aload_n 0, 1) := by decide +kernel
theorem dX9_shut_98 : decode cX9_shut 98 = .ok (.getfield 210, 3) := by decide +kernel
theorem dX9_shut_101 : decode cX9_shut 101 = .ok (.iload_n 2, 1) := by decide +kernel
theorem dX9_shut_102 : decode cX9_shut 102 = .ok (.iastore, 1) := by decide +kernel
theorem dX9_shut_103 : decode cX9_shut 103 = .ok (.aload_n 0, 1) := by decide +kernel
theorem dX9_shut_104 : decode cX9_shut 104 = .ok (.getfield 37, 3) := by decide +kernel
theorem dX9_shut_107 : decode cX9_shut 107 = .ok (.aload_n 0, 1) := by decide +kernel
theorem dX9_shut_108 : decode cX9_shut 108 = .ok (.getfield 210, 3) := by decide +kernel
theorem dX9_shut_111 : decode cX9_shut 111 = .ok (.iload_n 3, 1) := by decide +kernel
theorem dX9_shut_112 : decode cX9_shut 112 = .ok (.iastore, 1) := by decide +kernel
theorem dX9_shut_113 : decode cX9_shut 113 = .ok (.aload_n 0, 1) := by decide +kernel
theorem dX9_shut_114 : decode cX9_shut 114 = .ok (.dup, 1) := by decide +kernel
theorem dX9_shut_115 : decode cX9_shut 115 = .ok (.getfield 210, 3) := by decide +kernel
theorem dX9_shut_118 : decode cX9_shut 118 = .ok (.iconst 1, 1) := by decide +kernel
theorem dX9_shut_119 : decode cX9_shut 119 = .ok (.iadd, 1) := by decide +kernel
theorem dX9_shut_120 : decode cX9_shut 120 = .ok (.putfield 210, 3) := by decide +kernel
theorem dX9_shut_123 : decode cX9_shut 123 = .ok (.aload_n 0, 1) := by decide +kernel
theorem dX9_shut_124 : decode cX9_shut 124 = .ok (.getfield 210, 3) := by decide +kernel
theorem dX9_shut_127 : decode cX9_shut 127 = .ok (.ireturn, 1) := by decide +kernel
theorem dX9_leaves_0 : decode cX9_leaves 0 = .ok (.iload_n 2, 1) := by decide +kernel
theorem dX9_leaves_1 : decode cX9_leaves 1 = .ok (.aload_n 0, 1) := by decide +kernel
theorem dX9_leaves_2 : decode cX9_leaves 2 = .ok (.getfield 25, 3) := by decide +kernel
theorem dX9_leaves_5 : decode cX9_leaves 5 = .ok (.iload_n 1, 1) := by decide +kernel
theorem dX9_leaves_6 : decode cX9_leaves 6 = .ok (.iaload, 1) := by decide +kernel
theorem dX9_leaves_7 : decode cX9_leaves 7 = .ok (.if_icmp .lt 21, 3) := by decide +kernel
theorem dX9_leaves_10 : decode cX9_leaves 10 = .ok (.iload_n 2, 1) := by decide +kernel
theorem dX9_leaves_11 : decode cX9_leaves 11 = .ok (.aload_n 0, 1) := by decide +kernel
theorem dX9_leaves_12 : decode cX9_leaves 12 = .ok (.getfield 25, 3) := by decide +kernel
theorem dX9_leaves_15 : decode cX9_leaves 15 = .ok (.iload_n 1, 1) := by decide +kernel
theorem dX9_leaves_16 : decode cX9_leaves 16 = .ok (.iaload, 1) := by decide +kernel
theorem dX9_leaves_17 : decode cX9_leaves 17 = .ok (.isub, 1) := by decide +kernel
theorem dX9_leaves_18 : decode cX9_leaves 18 = .ok (.aload_n 0, 1) := by decide +kernel
theorem dX9_leaves_19 : decode cX9_leaves 19 = .ok (.getfield 28, 3) := by decide +kernel
theorem dX9_leaves_22 : decode cX9_leaves 22 = .ok (.iload_n 1, 1) := by decide +kernel
theorem dX9_leaves_23 : decode cX9_leaves 23 = .ok (.iaload, 1) := by decide +kernel
theorem dX9_leaves_24 : decode cX9_leaves 24 = .ok (.irem, 1) := by decide +kernel
theorem dX9_leaves_25 : decode cX9_leaves 25 = .ok (.ifCond .eq 5, 3) := by decide +kernel
theorem dX9_leaves_28 : decode cX9_leaves 28 = .ok (.iconst 0, 1) := by decide +kernel
theorem dX9_leaves_29 : decode cX9_leaves 29 = .ok (.ireturn, 1) := by decide +kernel
theorem dX9_leaves_30 : decode cX9_leaves 30 = .ok (.iconst 0, 1) := by decide +kernel
theorem dX9_leaves_31 : decode cX9_leaves 31 = .ok (.istore_n 3, 1) := by decide +kernel
theorem dX9_leaves_32 : decode cX9_leaves 32 = .ok (.iload_n 3, 1) := by decide +kernel
theorem dX9_leaves_33 : decode cX9_leaves 33 = .ok (.aload_n 0, 1) := by decide +kernel
theorem dX9_leaves_34 : decode cX9_leaves 34 = .ok (.getfield 210, 3) := by decide +kernel
theorem dX9_leaves_37 : decode cX9_leaves 37 = .ok (.if_icmp .ge 43, 3) := by decide +kernel
theorem dX9_leaves_40 : decode cX9_leaves 40 = .ok (.aload_n 0, 1) := by decide +kernel
theorem dX9_leaves_41 : decode cX9_leaves 41 = .ok (.getfield 31, 3) := by decide +kernel
theorem dX9_leaves_44 : decode cX9_leaves 44 = .ok (.iload_n 3, 1) := by decide +kernel
theorem dX9_leaves_45 : decode cX9_leaves 45 = .ok (.iaload, 1) := by decide +kernel
theorem dX9_leaves_46 : decode cX9_leaves 46 = .ok (.iload_n 1, 1) := by decide +kernel
theorem dX9_leaves_47 : decode cX9_leaves 47 = .ok (.if_icmp .ne 27, 3) := by decide +kernel
theorem dX9_leaves_50 : decode cX9_leaves 50 = .ok (.iload_n 2, 1) := by decide +kernel
theorem dX9_leaves_51 : decode cX9_leaves 51 = .ok (.i2l, 1) := by decide +kernel
theorem dX9_leaves_52 : decode cX9_leaves 52 = .ok (.aload_n 0, 1) := by decide +kernel
theorem dX9_leaves_53 : decode cX9_leaves 53 = .ok (.getfield 34, 3) := by decide +kernel
theorem dX9_leaves_56 : decode cX9_leaves 56 = .ok (.iload_n 3, 1) := by decide +kernel
theorem dX9_leaves_57 : decode cX9_leaves 57 = .ok (.iaload, 1) := by decide +kernel
theorem dX9_leaves_58 : decode cX9_leaves 58 = .ok (.i2l, 1) := by decide +kernel
theorem dX9_leaves_59 : decode cX9_leaves 59 = .ok (.aload_n 0, 1) := by decide +kernel
theorem dX9_leaves_60 : decode cX9_leaves 60 = .ok (.getfield 37, 3) := by decide +kernel
theorem dX9_leaves_63 : decode cX9_leaves 63 = .ok (.iload_n 3, 1) := by decide +kernel
theorem dX9_leaves_64 : decode cX9_leaves 64 = .ok (.iaload, 1) := by decide +kernel
theorem dX9_leaves_65 : decode cX9_leaves 65 = .ok (.i2l, 1) := by decide +kernel
theorem dX9_leaves_66 : decode cX9_leaves 66 = .ok (.invokestatic 203, 3) := by decide +kernel
theorem dX9_leaves_69 : decode cX9_leaves 69 = .ok (.ifCond .eq 5, 3) := by decide +kernel
theorem dX9_leaves_72 : decode cX9_leaves 72 = .ok (.iconst 0, 1) := by decide +kernel
theorem dX9_leaves_73 : decode cX9_leaves 73 = .ok (.ireturn, 1) := by decide +kernel
theorem dX9_leaves_74 : decode cX9_leaves 74 = .ok (.iinc 3 1, 3) := by decide +kernel
theorem dX9_leaves_77 : decode cX9_leaves 77 = .ok (.goto (-45), 3) := by decide +kernel
theorem dX9_leaves_80 : decode cX9_leaves 80 = .ok (.iconst 1, 1) := by decide +kernel
theorem dX9_leaves_81 : decode cX9_leaves 81 = .ok (.ireturn, 1) := by decide +kernel
theorem dX9_findFar_0 : decode cX9_findFar 0 = .ok (.iconst 0, 1) := by decide +kernel
theorem dX9_findFar_1 : decode cX9_findFar 1 = .ok (.istore_n 1, 1) := by decide +kernel
theorem dX9_findFar_2 : decode cX9_findFar 2 = .ok (.iload_n 1, 1) := by decide +kernel
theorem dX9_findFar_3 : decode cX9_findFar 3 = .ok (.sipush 144, 3) := by decide +kernel
theorem dX9_findFar_6 : decode cX9_findFar 6 = .ok (.if_icmp .ge 28, 3) := by decide +kernel
theorem dX9_findFar_9 : decode cX9_findFar 9 = .ok (.aload_n 0, 1) := by decide +kernel
theorem dX9_findFar_10 : decode cX9_findFar 10 = .ok (.getfield 40, 3) := by decide +kernel
theorem dX9_findFar_13 : decode cX9_findFar 13 = .ok (.iload_n 1, 1) := by decide +kernel
theorem dX9_findFar_14 : decode cX9_findFar 14 = .ok (.iload_n 1, 1) := by decide +kernel
theorem dX9_findFar_15 : decode cX9_findFar 15 = .ok (.bipush 13, 2) := by decide +kernel
theorem dX9_findFar_17 : decode cX9_findFar 17 = .ok (.irem, 1) := by decide +kernel
theorem dX9_findFar_18 : decode cX9_findFar 18 = .ok (.ifCond .ne 7, 3) := by decide +kernel
theorem dX9_findFar_21 : decode cX9_findFar 21 = .ok (.iconst 0, 1) := by decide +kernel
theorem dX9_findFar_22 : decode cX9_findFar 22 = .ok (.goto 5, 3) := by decide +kernel
theorem dX9_findFar_25 : decode cX9_findFar 25 = .ok (.ldc 213, 2) := by decide +kernel
theorem dX9_findFar_27 : decode cX9_findFar 27 = .ok (.iastore, 1) := by decide +kernel
theorem dX9_findFar_28 : decode cX9_findFar 28 = .ok (.iinc 1 1, 3) := by decide +kernel
theorem dX9_findFar_31 : decode cX9_findFar 31 = .ok (.goto (-29), 3) := by decide +kernel
theorem dX9_findFar_34 : decode cX9_findFar 34 = .ok (.iconst 0, 1) := by decide +kernel
theorem dX9_findFar_35 : decode cX9_findFar 35 = .ok (.istore_n 1, 1) := by decide +kernel
theorem dX9_findFar_36 : decode cX9_findFar 36 = .ok (.iload_n 1, 1) := by decide +kernel
theorem dX9_findFar_37 : decode cX9_findFar 37 = .ok (.aload_n 0, 1) := by decide +kernel
theorem dX9_findFar_38 : decode cX9_findFar 38 = .ok (.getfield 183, 3) := by decide +kernel
theorem dX9_findFar_41 : decode cX9_findFar 41 = .ok (.if_icmp .ge 157, 3) := by decide +kernel
theorem dX9_findFar_44 : decode cX9_findFar 44 = .ok (.iconst 0, 1) := by decide +kernel
theorem dX9_findFar_45 : decode cX9_findFar 45 = .ok (.istore_n 2, 1) := by decide +kernel
theorem dX9_findFar_46 : decode cX9_findFar 46 = .ok (.iload_n 2, 1) := by decide +kernel
theorem dX9_findFar_47 : decode cX9_findFar 47 = .ok (.aload_n 0, 1) := by decide +kernel
theorem dX9_findFar_48 : decode cX9_findFar 48 = .ok (.getfield 200, 3) := by decide +kernel
theorem dX9_findFar_51 : decode cX9_findFar 51 = .ok (.if_icmp .ge 141, 3) := by decide +kernel
theorem dX9_findFar_54 : decode cX9_findFar 54 = .ok (.iconst 0, 1) := by decide +kernel
theorem dX9_findFar_55 : decode cX9_findFar 55 = .ok (.istore_n 3, 1) := by decide +kernel
theorem dX9_findFar_56 : decode cX9_findFar 56 = .ok (.iload_n 3, 1) := by decide +kernel
theorem dX9_findFar_57 : decode cX9_findFar 57 = .ok (.aload_n 0, 1) := by decide +kernel
theorem dX9_findFar_58 : decode cX9_findFar 58 = .ok (.getfield 183, 3) := by decide +kernel
theorem dX9_findFar_61 : decode cX9_findFar 61 = .ok (.if_icmp .ge 125, 3) := by decide +kernel
theorem dX9_findFar_64 : decode cX9_findFar 64 = .ok (.bipush 12, 2) := by decide +kernel
theorem dX9_findFar_66 : decode cX9_findFar 66 = .ok (.iload_n 3, 1) := by decide +kernel
theorem dX9_findFar_67 : decode cX9_findFar 67 = .ok (.imul, 1) := by decide +kernel
theorem dX9_findFar_68 : decode cX9_findFar 68 = .ok (.aload_n 0, 1) := by decide +kernel
theorem dX9_findFar_69 : decode cX9_findFar 69 = .ok (.getfield 16, 3) := by decide +kernel
theorem dX9_findFar_72 : decode cX9_findFar 72 = .ok (.iload_n 2, 1) := by decide +kernel
theorem dX9_findFar_73 : decode cX9_findFar 73 = .ok (.iaload, 1) := by decide +kernel
theorem dX9_findFar_74 : decode cX9_findFar 74 = .ok (.iadd, 1) := by decide +kernel
theorem dX9_findFar_75 : decode cX9_findFar 75 = .ok (.istore 4, 2) := by decide +kernel
theorem dX9_findFar_77 : decode cX9_findFar 77 = .ok (.bipush 12, 2) := by decide +kernel
theorem dX9_findFar_79 : decode cX9_findFar 79 = .ok (.iload_n 3, 1) := by decide +kernel
theorem dX9_findFar_80 : decode cX9_findFar 80 = .ok (.imul, 1) := by decide +kernel
theorem dX9_findFar_81 : decode cX9_findFar 81 = .ok (.aload_n 0, 1) := by decide +kernel
theorem dX9_findFar_82 : decode cX9_findFar 82 = .ok (.getfield 19, 3) := by decide +kernel
theorem dX9_findFar_85 : decode cX9_findFar 85 = .ok (.iload_n 2, 1) := by decide +kernel
theorem dX9_findFar_86 : decode cX9_findFar 86 = .ok (.iaload, 1) := by decide +kernel
theorem dX9_findFar_87 : decode cX9_findFar 87 = .ok (.iadd, 1) := by decide +kernel
theorem dX9_findFar_88 : decode cX9_findFar 88 = .ok (.istore 5, 2) := by decide +kernel
theorem dX9_findFar_90 : decode cX9_findFar 90 = .ok (.aload_n 0, 1) := by decide +kernel
theorem dX9_findFar_91 : decode cX9_findFar 91 = .ok (.getfield 40, 3) := by decide +kernel
theorem dX9_findFar_94 : decode cX9_findFar 94 = .ok (.iload 4, 2) := by decide +kernel
theorem dX9_findFar_96 : decode cX9_findFar 96 = .ok (.iaload, 1) := by decide +kernel
theorem dX9_findFar_97 : decode cX9_findFar 97 = .ok (.aload_n 0, 1) := by decide +kernel
theorem dX9_findFar_98 : decode cX9_findFar 98 = .ok (.getfield 22, 3) := by decide +kernel
theorem dX9_findFar_101 : decode cX9_findFar 101 = .ok (.iload_n 2, 1) := by decide +kernel
theorem dX9_findFar_102 : decode cX9_findFar 102 = .ok (.iaload, 1) := by decide +kernel
theorem dX9_findFar_103 : decode cX9_findFar 103 = .ok (.iadd, 1) := by decide +kernel
theorem dX9_findFar_104 : decode cX9_findFar 104 = .ok (.aload_n 0, 1) := by decide +kernel
theorem dX9_findFar_105 : decode cX9_findFar 105 = .ok (.getfield 40, 3) := by decide +kernel
theorem dX9_findFar_108 : decode cX9_findFar 108 = .ok (.iload 5, 2) := by decide +kernel
theorem dX9_findFar_110 : decode cX9_findFar 110 = .ok (.iaload, 1) := by decide +kernel
theorem dX9_findFar_111 : decode cX9_findFar 111 = .ok (.if_icmp .ge 24, 3) := by decide +kernel
theorem dX9_findFar_114 : decode cX9_findFar 114 = .ok (.aload_n 0, 1) := by decide +kernel
theorem dX9_findFar_115 : decode cX9_findFar 115 = .ok (.getfield 40, 3) := by decide +kernel
theorem dX9_findFar_118 : decode cX9_findFar 118 = .ok (.iload 5, 2) := by decide +kernel
theorem dX9_findFar_120 : decode cX9_findFar 120 = .ok (.aload_n 0, 1) := by decide +kernel
theorem dX9_findFar_121 : decode cX9_findFar 121 = .ok (.getfield 40, 3) := by decide +kernel
theorem dX9_findFar_124 : decode cX9_findFar 124 = .ok (.iload 4, 2) := by decide +kernel
theorem dX9_findFar_126 : decode cX9_findFar 126 = .ok (.iaload, 1) := by decide +kernel
theorem dX9_findFar_127 : decode cX9_findFar 127 = .ok (.aload_n 0, 1) := by decide +kernel
theorem dX9_findFar_128 : decode cX9_findFar 128 = .ok (.getfield 22, 3) := by decide +kernel
theorem dX9_findFar_131 : decode cX9_findFar 131 = .ok (.iload_n 2, 1) := by decide +kernel
theorem dX9_findFar_132 : decode cX9_findFar 132 = .ok (.iaload, 1) := by decide +kernel
theorem dX9_findFar_133 : decode cX9_findFar 133 = .ok (.iadd, 1) := by decide +kernel
theorem dX9_findFar_134 : decode cX9_findFar 134 = .ok (.iastore, 1) := by decide +kernel
theorem dX9_findFar_135 : decode cX9_findFar 135 = .ok (.aload_n 0, 1) := by decide +kernel
theorem dX9_findFar_136 : decode cX9_findFar 136 = .ok (.getfield 40, 3) := by decide +kernel
theorem dX9_findFar_139 : decode cX9_findFar 139 = .ok (.iload 5, 2) := by decide +kernel
theorem dX9_findFar_141 : decode cX9_findFar 141 = .ok (.iaload, 1) := by decide +kernel
theorem dX9_findFar_142 : decode cX9_findFar 142 = .ok (.aload_n 0, 1) := by decide +kernel
theorem dX9_findFar_143 : decode cX9_findFar 143 = .ok (.getfield 22, 3) := by decide +kernel
theorem dX9_findFar_146 : decode cX9_findFar 146 = .ok (.iload_n 2, 1) := by decide +kernel
theorem dX9_findFar_147 : decode cX9_findFar 147 = .ok (.iaload, 1) := by decide +kernel
theorem dX9_findFar_148 : decode cX9_findFar 148 = .ok (.iadd, 1) := by decide +kernel
theorem dX9_findFar_149 : decode cX9_findFar 149 = .ok (.aload_n 0, 1) := by decide +kernel
theorem dX9_findFar_150 : decode cX9_findFar 150 = .ok (.getfield 40, 3) := by decide +kernel
theorem dX9_findFar_153 : decode cX9_findFar 153 = .ok (.iload 4, 2) := by decide +kernel
theorem dX9_findFar_155 : decode cX9_findFar 155 = .ok (.iaload, 1) := by decide +kernel
theorem dX9_findFar_156 : decode cX9_findFar 156 = .ok (.if_icmp .ge 24, 3) := by decide +kernel
theorem dX9_findFar_159 : decode cX9_findFar 159 = .ok (.aload_n 0, 1) := by decide +kernel
theorem dX9_findFar_160 : decode cX9_findFar 160 = .ok (.getfield 40, 3) := by decide +kernel
theorem dX9_findFar_163 : decode cX9_findFar 163 = .ok (.iload 4, 2) := by decide +kernel
theorem dX9_findFar_165 : decode cX9_findFar 165 = .ok (.aload_n 0, 1) := by decide +kernel
theorem dX9_findFar_166 : decode cX9_findFar 166 = .ok (.getfield 40, 3) := by decide +kernel
theorem dX9_findFar_169 : decode cX9_findFar 169 = .ok (.iload 5, 2) := by decide +kernel
theorem dX9_findFar_171 : decode cX9_findFar 171 = .ok (.iaload, 1) := by decide +kernel
theorem dX9_findFar_172 : decode cX9_findFar 172 = .ok (.aload_n 0, 1) := by decide +kernel
theorem dX9_findFar_173 : decode cX9_findFar 173 = .ok (.getfield 22, 3) := by decide +kernel
theorem dX9_findFar_176 : decode cX9_findFar 176 = .ok (.iload_n 2, 1) := by decide +kernel
theorem dX9_findFar_177 : decode cX9_findFar 177 = .ok (.iaload, 1) := by decide +kernel
theorem dX9_findFar_178 : decode cX9_findFar 178 = .ok (.iadd, 1) := by decide +kernel
theorem dX9_findFar_179 : decode cX9_findFar 179 = .ok (.iastore, 1) := by decide +kernel
theorem dX9_findFar_180 : decode cX9_findFar 180 = .ok (.iinc 3 1, 3) := by decide +kernel
theorem dX9_findFar_183 : decode cX9_findFar 183 = .ok (.goto (-127), 3) := by decide +kernel
theorem dX9_findFar_186 : decode cX9_findFar 186 = .ok (.iinc 2 1, 3) := by decide +kernel
theorem dX9_findFar_189 : decode cX9_findFar 189 = .ok (.goto (-143), 3) := by decide +kernel
theorem dX9_findFar_192 : decode cX9_findFar 192 = .ok (.iinc 1 1, 3) := by decide +kernel
theorem dX9_findFar_195 : decode cX9_findFar 195 = .ok (.goto (-159), 3) := by decide +kernel
theorem dX9_findFar_198 : decode cX9_findFar 198 = .ok (.return_, 1) := by decide +kernel
theorem dX9_far_0 : decode cX9_far 0 = .ok (.aload_n 0, 1) := by decide +kernel
theorem dX9_far_1 : decode cX9_far 1 = .ok (.iload_n 1, 1) := by decide +kernel
theorem dX9_far_2 : decode cX9_far 2 = .ok (.invokevirtual 196, 3) := by decide +kernel
theorem dX9_far_5 : decode cX9_far 5 = .ok (.ifCond .eq 11, 3) := by decide +kernel
theorem dX9_far_8 : decode cX9_far 8 = .ok (.aload_n 0, 1) := by decide +kernel
theorem dX9_far_9 : decode cX9_far 9 = .ok (.iload_n 2, 1) := by decide +kernel
theorem dX9_far_10 : decode cX9_far 10 = .ok (.invokevirtual 196, 3) := by decide +kernel
theorem dX9_far_13 : decode cX9_far 13 = .ok (.ifCond .ne 9, 3) := by decide +kernel
theorem dX9_far_16 : decode cX9_far 16 = .ok (.aload_n 0, 1) := by decide +kernel
theorem dX9_far_17 : decode cX9_far 17 = .ok (.iconst (-1), 1) := by decide +kernel
theorem dX9_far_18 : decode cX9_far 18 = .ok (.invokevirtual 192, 3) := by decide +kernel
theorem dX9_far_21 : decode cX9_far 21 = .ok (.ireturn, 1) := by decide +kernel
theorem dX9_far_22 : decode cX9_far 22 = .ok (.aload_n 0, 1) := by decide +kernel
theorem dX9_far_23 : decode cX9_far 23 = .ok (.invokevirtual 214, 3) := by decide +kernel
theorem dX9_far_26 : decode cX9_far 26 = .ok (.aload_n 0, 1) := by decide +kernel
theorem dX9_far_27 : decode cX9_far 27 = .ok (.getfield 40, 3) := by decide +kernel
theorem dX9_far_30 : decode cX9_far 30 = .ok (.bipush 12, 2) := by decide +kernel
theorem dX9_far_32 : decode cX9_far 32 = .ok (.iload_n 1, 1) := by decide +kernel
theorem dX9_far_33 : decode cX9_far 33 = .ok (.imul, 1) := by decide +kernel
theorem dX9_far_34 : decode cX9_far 34 = .ok (.iload_n 2, 1) := by decide +kernel
theorem dX9_far_35 : decode cX9_far 35 = .ok (.iadd, 1) := by decide +kernel
theorem dX9_far_36 : decode cX9_far 36 = .ok (.iaload, 1) := by decide +kernel
theorem dX9_far_37 : decode cX9_far 37 = .ok (.ldc 213, 2) := by decide +kernel
theorem dX9_far_39 : decode cX9_far 39 = .ok (.if_icmp .lt 8, 3) := by decide +kernel
theorem dX9_far_42 : decode cX9_far 42 = .ok (.bipush (-9), 2) := by decide +kernel
theorem dX9_far_44 : decode cX9_far 44 = .ok (.goto 14, 3) := by decide +kernel
theorem dX9_far_47 : decode cX9_far 47 = .ok (.aload_n 0, 1) := by decide +kernel
theorem dX9_far_48 : decode cX9_far 48 = .ok (.getfield 40, 3) := by decide +kernel
theorem dX9_far_51 : decode cX9_far 51 = .ok (.bipush 12, 2) := by decide +kernel
theorem dX9_far_53 : decode cX9_far 53 = .ok (.iload_n 1, 1) := by decide +kernel
theorem dX9_far_54 : decode cX9_far 54 = .ok (.imul, 1) := by decide +kernel
theorem dX9_far_55 : decode cX9_far 55 = .ok (.iload_n 2, 1) := by decide +kernel
theorem dX9_far_56 : decode cX9_far 56 = .ok (.iadd, 1) := by decide +kernel
theorem dX9_far_57 : decode cX9_far 57 = .ok (.iaload, 1) := by decide +kernel
theorem dX9_far_58 : decode cX9_far 58 = .ok (.ireturn, 1) := by decide +kernel
theorem dX9_lateOf_0 : decode cX9_lateOf 0 = .ok (.aload_n 0, 1) := by decide +kernel
theorem dX9_lateOf_1 : decode cX9_lateOf 1 = .ok (.getfield 43, 3) := by decide +kernel
theorem dX9_lateOf_4 : decode cX9_lateOf 4 = .ok (.iload_n 1, 1) := by decide +kernel
theorem dX9_lateOf_5 : decode cX9_lateOf 5 = .ok (.baload, 1) := by decide +kernel
theorem dX9_lateOf_6 : decode cX9_lateOf 6 = .ok (.ifCond .eq 7, 3) := by decide +kernel
theorem dX9_lateOf_9 : decode cX9_lateOf 9 = .ok (.iconst 0, 1) := by decide +kernel
theorem dX9_lateOf_10 : decode cX9_lateOf 10 = .ok (.goto 25, 3) := by decide +kernel
theorem dX9_lateOf_13 : decode cX9_lateOf 13 = .ok (.aload_n 0, 1) := by decide +kernel
theorem dX9_lateOf_14 : decode cX9_lateOf 14 = .ok (.getfield 40, 3) := by decide +kernel
theorem dX9_lateOf_17 : decode cX9_lateOf 17 = .ok (.iload_n 1, 1) := by decide +kernel
theorem dX9_lateOf_18 : decode cX9_lateOf 18 = .ok (.iaload, 1) := by decide +kernel
theorem dX9_lateOf_19 : decode cX9_lateOf 19 = .ok (.ldc 213, 2) := by decide +kernel
theorem dX9_lateOf_21 : decode cX9_lateOf 21 = .ok (.if_icmp .lt 8, 3) := by decide +kernel
theorem dX9_lateOf_24 : decode cX9_lateOf 24 = .ok (.bipush (-9), 2) := by decide +kernel
theorem dX9_lateOf_26 : decode cX9_lateOf 26 = .ok (.goto 9, 3) := by decide +kernel
theorem dX9_lateOf_29 : decode cX9_lateOf 29 = .ok (.aload_n 0, 1) := by decide +kernel
theorem dX9_lateOf_30 : decode cX9_lateOf 30 = .ok (.getfield 40, 3) := by decide +kernel
theorem dX9_lateOf_33 : decode cX9_lateOf 33 = .ok (.iload_n 1, 1) := by decide +kernel
theorem dX9_lateOf_34 : decode cX9_lateOf 34 = .ok (.iaload, 1) := by decide +kernel
theorem dX9_lateOf_35 : decode cX9_lateOf 35 = .ok (.ireturn, 1) := by decide +kernel
theorem dX9_late_0 : decode cX9_late 0 = .ok (.aload_n 0, 1) := by decide +kernel
theorem dX9_late_1 : decode cX9_late 1 = .ok (.iload_n 1, 1) := by decide +kernel
theorem dX9_late_2 : decode cX9_late 2 = .ok (.invokevirtual 196, 3) := by decide +kernel
theorem dX9_late_5 : decode cX9_late 5 = .ok (.ifCond .ne 9, 3) := by decide +kernel
theorem dX9_late_8 : decode cX9_late 8 = .ok (.aload_n 0, 1) := by decide +kernel
theorem dX9_late_9 : decode cX9_late 9 = .ok (.iconst (-1), 1) := by decide +kernel
theorem dX9_late_10 : decode cX9_late 10 = .ok (.invokevirtual 192, 3) := by decide +kernel
theorem dX9_late_13 : decode cX9_late 13 = .ok (.ireturn, 1) := by decide +kernel
theorem dX9_late_14 : decode cX9_late 14 = .ok (.aload_n 0, 1) := by decide +kernel
theorem dX9_late_15 : decode cX9_late 15 = .ok (.invokevirtual 214, 3) := by decide +kernel
theorem dX9_late_18 : decode cX9_late 18 = .ok (.aload_n 0, 1) := by decide +kernel
theorem dX9_late_19 : decode cX9_late 19 = .ok (.iload_n 1, 1) := by decide +kernel
theorem dX9_late_20 : decode cX9_late 20 = .ok (.invokevirtual 217, 3) := by decide +kernel
theorem dX9_late_23 : decode cX9_late 23 = .ok (.ireturn, 1) := by decide +kernel
theorem dX9_isHeard_0 : decode cX9_isHeard 0 = .ok (.iload_n 2, 1) := by decide +kernel
theorem dX9_isHeard_1 : decode cX9_isHeard 1 = .ok (.ifCond .ge 14, 3) := by decide +kernel
theorem dX9_isHeard_4 : decode cX9_isHeard 4 = .ok (.iload_n 1, 1) := by decide +kernel
theorem dX9_isHeard_5 : decode cX9_isHeard 5 = .ok (.iload_n 3, 1) := by decide +kernel
theorem dX9_isHeard_6 : decode cX9_isHeard 6 = .ok (.if_icmp .gt 7, 3) := by decide +kernel
theorem dX9_isHeard_9 : decode cX9_isHeard 9 = .ok (.iconst 1, 1) := by decide +kernel
theorem dX9_isHeard_10 : decode cX9_isHeard 10 = .ok (.goto 4, 3) := by decide +kernel
theorem dX9_isHeard_13 : decode cX9_isHeard 13 = .ok (.iconst 0, 1) := by decide +kernel
theorem dX9_isHeard_14 : decode cX9_isHeard 14 = .ok (.ireturn, 1) := by decide +kernel
theorem dX9_isHeard_15 : decode cX9_isHeard 15 = .ok (.aload_n 0, 1) := by decide +kernel
theorem dX9_isHeard_16 : decode cX9_isHeard 16 = .ok (.iload_n 2, 1) := by decide +kernel
theorem dX9_isHeard_17 : decode cX9_isHeard 17 = .ok (.invokevirtual 217, 3) := by decide +kernel
theorem dX9_isHeard_20 : decode cX9_isHeard 20 = .ok (.istore 4, 2) := by decide +kernel
theorem dX9_isHeard_22 : decode cX9_isHeard 22 = .ok (.iload 4, 2) := by decide +kernel
theorem dX9_isHeard_24 : decode cX9_isHeard 24 = .ok (.ifCond .lt 15, 3) := by decide +kernel
theorem dX9_isHeard_27 : decode cX9_isHeard 27 = .ok (.iload_n 1, 1) := by decide +kernel
theorem dX9_isHeard_28 : decode cX9_isHeard 28 = .ok (.iload 4, 2) := by decide +kernel
theorem dX9_isHeard_30 : decode cX9_isHeard 30 = .ok (.iadd, 1) := by decide +kernel
theorem dX9_isHeard_31 : decode cX9_isHeard 31 = .ok (.iload_n 3, 1) := by decide +kernel
theorem dX9_isHeard_32 : decode cX9_isHeard 32 = .ok (.if_icmp .gt 7, 3) := by decide +kernel
theorem dX9_isHeard_35 : decode cX9_isHeard 35 = .ok (.iconst 1, 1) := by decide +kernel
theorem dX9_isHeard_36 : decode cX9_isHeard 36 = .ok (.goto 4, 3) := by decide +kernel
theorem dX9_isHeard_39 : decode cX9_isHeard 39 = .ok (.iconst 0, 1) := by decide +kernel
theorem dX9_isHeard_40 : decode cX9_isHeard 40 = .ok (.ireturn, 1) := by decide +kernel
theorem dX9_isUnit_0 : decode cX9_isUnit 0 = .ok (.iload_n 0, 1) := by decide +kernel
theorem dX9_isUnit_1 : decode cX9_isUnit 1 = .ok (.ifCond .lt 13, 3) := by decide +kernel
theorem dX9_isUnit_4 : decode cX9_isUnit 4 = .ok (.iload_n 0, 1) := by decide +kernel
theorem dX9_isUnit_5 : decode cX9_isUnit 5 = .ok (.bipush 16, 2) := by decide +kernel
theorem dX9_isUnit_7 : decode cX9_isUnit 7 = .ok (.if_icmp .ge 7, 3) := by decide +kernel
theorem dX9_isUnit_10 : decode cX9_isUnit 10 = .ok (.iconst 1, 1) := by decide +kernel
theorem dX9_isUnit_11 : decode cX9_isUnit 11 = .ok (.goto 4, 3) := by decide +kernel
theorem dX9_isUnit_14 : decode cX9_isUnit 14 = .ok (.iconst 0, 1) := by decide +kernel
theorem dX9_isUnit_15 : decode cX9_isUnit 15 = .ok (.ireturn, 1) := by decide +kernel
theorem dX9_isMan_0 : decode cX9_isMan 0 = .ok (.iload_n 1, 1) := by decide +kernel
theorem dX9_isMan_1 : decode cX9_isMan 1 = .ok (.ifCond .lt 15, 3) := by decide +kernel
theorem dX9_isMan_4 : decode cX9_isMan 4 = .ok (.iload_n 1, 1) := by decide +kernel
theorem dX9_isMan_5 : decode cX9_isMan 5 = .ok (.aload_n 0, 1) := by decide +kernel
theorem dX9_isMan_6 : decode cX9_isMan 6 = .ok (.getfield 220, 3) := by decide +kernel
theorem dX9_isMan_9 : decode cX9_isMan 9 = .ok (.if_icmp .ge 7, 3) := by decide +kernel
theorem dX9_isMan_12 : decode cX9_isMan 12 = .ok (.iconst 1, 1) := by decide +kernel
theorem dX9_isMan_13 : decode cX9_isMan 13 = .ok (.goto 4, 3) := by decide +kernel
theorem dX9_isMan_16 : decode cX9_isMan 16 = .ok (.iconst 0, 1) := by decide +kernel
theorem dX9_isMan_17 : decode cX9_isMan 17 = .ok (.ireturn, 1) := by decide +kernel
theorem dX9_move_0 : decode cX9_move 0 = .ok (.iload_n 1, 1) := by decide +kernel
theorem dX9_move_1 : decode cX9_move 1 = .ok (.invokestatic 223, 3) := by decide +kernel
theorem dX9_move_4 : decode cX9_move 4 = .ok (.ifCond .eq 11, 3) := by decide +kernel
theorem dX9_move_7 : decode cX9_move 7 = .ok (.aload_n 0, 1) := by decide +kernel
theorem dX9_move_8 : decode cX9_move 8 = .ok (.iload_n 2, 1) := by decide +kernel
theorem dX9_move_9 : decode cX9_move 9 = .ok (.invokevirtual 196, 3) := by decide +kernel
theorem dX9_move_12 : decode cX9_move 12 = .ok (.ifCond .ne 9, 3) := by decide +kernel
theorem dX9_move_15 : decode cX9_move 15 = .ok (.aload_n 0, 1) := by decide +kernel
theorem dX9_move_16 : decode cX9_move 16 = .ok (.iconst (-1), 1) := by decide +kernel
theorem dX9_move_17 : decode cX9_move 17 = .ok (.invokevirtual 192, 3) := by decide +kernel
theorem dX9_move_20 : decode cX9_move 20 = .ok (.ireturn, 1) := by decide +kernel
theorem dX9_move_21 : decode cX9_move 21 = .ok (.iload_n 3, 1) := by decide +kernel
theorem dX9_move_22 : decode cX9_move 22 = .ok (.aload_n 0, 1) := by decide +kernel
theorem dX9_move_23 : decode cX9_move 23 = .ok (.getfield 207, 3) := by decide +kernel
theorem dX9_move_26 : decode cX9_move 26 = .ok (.if_icmp .ge 8, 3) := by decide +kernel
theorem dX9_move_29 : decode cX9_move 29 = .ok (.bipush (-4), 2) := by decide +kernel
theorem dX9_move_31 : decode cX9_move 31 = .ok (.goto 25, 3) := by decide +kernel
theorem dX9_move_34 : decode cX9_move 34 = .ok (.iload_n 3, 1) := by decide +kernel
theorem dX9_move_35 : decode cX9_move 35 = .ok (.sipush 2000, 3) := by decide +kernel
theorem dX9_move_38 : decode cX9_move 38 = .ok (.if_icmp .gt 12, 3) := by decide +kernel
theorem dX9_move_41 : decode cX9_move 41 = .ok (.aload_n 0, 1) := by decide +kernel
theorem dX9_move_42 : decode cX9_move 42 = .ok (.getfield 226, 3) := by decide +kernel
theorem dX9_move_45 : decode cX9_move 45 = .ok (.bipush 60, 2) := by decide +kernel
theorem dX9_move_47 : decode cX9_move 47 = .ok (.if_icmp .ne 8, 3) := by decide +kernel
theorem dX9_move_50 : decode cX9_move 50 = .ok (.bipush (-6), 2) := by decide +kernel
theorem dX9_move_52 : decode cX9_move 52 = .ok (.goto 4, 3) := by decide +kernel
theorem dX9_move_55 : decode cX9_move 55 = .ok (.iconst 0, 1) := by decide +kernel
theorem dX9_move_56 : decode cX9_move 56 = .ok (.istore 4, 2) := by decide +kernel
theorem dX9_move_58 : decode cX9_move 58 = .ok (.iload 4, 2) := by decide +kernel
theorem dX9_move_60 : decode cX9_move 60 = .ok (.ifCond .eq 10, 3) := by decide +kernel
theorem dX9_move_63 : decode cX9_move 63 = .ok (.aload_n 0, 1) := by decide +kernel
theorem dX9_move_64 : decode cX9_move 64 = .ok (.iload 4, 2) := by decide +kernel
theorem dX9_move_66 : decode cX9_move 66 = .ok (.invokevirtual 192, 3) := by decide +kernel
theorem dX9_move_69 : decode cX9_move 69 = .ok (.ireturn, 1) := by decide +kernel
theorem dX9_move_70 : decode cX9_move 70 = .ok (.aload_n 0, 1) := by decide +kernel
theorem dX9_move_71 : decode cX9_move 71 = .ok (.getfield 47, 3) := by decide +kernel
theorem dX9_move_74 : decode cX9_move 74 = .ok (.aload_n 0, 1) := by decide +kernel
theorem dX9_move_75 : decode cX9_move 75 = .ok (.getfield 226, 3) := by decide +kernel
theorem dX9_move_78 : decode cX9_move 78 = .ok (.iload_n 1, 1) := by decide +kernel
theorem dX9_move_79 : decode cX9_move 79 = .ok (.iastore, 1) := by decide +kernel
theorem dX9_move_80 : decode cX9_move 80 = .ok (.aload_n 0, 1) := by decide +kernel
theorem dX9_move_81 : decode cX9_move 81 = .ok (.getfield 50, 3) := by decide +kernel
theorem dX9_move_84 : decode cX9_move 84 = .ok (.aload_n 0, 1) := by decide +kernel
theorem dX9_move_85 : decode cX9_move 85 = .ok (.getfield 226, 3) := by decide +kernel
theorem dX9_move_88 : decode cX9_move 88 = .ok (.iload_n 2, 1) := by decide +kernel
theorem dX9_move_89 : decode cX9_move 89 = .ok (.iastore, 1) := by decide +kernel
theorem dX9_move_90 : decode cX9_move 90 = .ok (.aload_n 0, 1) := by decide +kernel
theorem dX9_move_91 : decode cX9_move 91 = .ok (.getfield 53, 3) := by decide +kernel
theorem dX9_move_94 : decode cX9_move 94 = .ok (.aload_n 0, 1) := by decide +kernel
theorem dX9_move_95 : decode cX9_move 95 = .ok (.getfield 226, 3) := by decide +kernel
theorem dX9_move_98 : decode cX9_move 98 = .ok (.iload_n 3, 1) := by decide +kernel
theorem dX9_move_99 : decode cX9_move 99 = .ok (.iastore, 1) := by decide +kernel
theorem dX9_move_100 : decode cX9_move 100 = .ok (.aload_n 0, 1) := by decide +kernel
theorem dX9_move_101 : decode cX9_move 101 = .ok (.getfield 56, 3) := by decide +kernel
theorem dX9_move_104 : decode cX9_move 104 = .ok (.aload_n 0, 1) := by decide +kernel
theorem dX9_move_105 : decode cX9_move 105 = .ok (.getfield 226, 3) := by decide +kernel
theorem dX9_move_108 : decode cX9_move 108 = .ok (.aload_n 0, 1) := by decide +kernel
theorem dX9_move_109 : decode cX9_move 109 = .ok (.getfield 207, 3) := by decide +kernel
theorem dX9_move_112 : decode cX9_move 112 = .ok (.iastore, 1) := by decide +kernel
theorem dX9_move_113 : decode cX9_move 113 = .ok (.aload_n 0, 1) := by decide +kernel
theorem dX9_move_114 : decode cX9_move 114 = .ok (.dup, 1) := by decide +kernel
theorem dX9_move_115 : decode cX9_move 115 = .ok (.getfield 226, 3) := by decide +kernel
theorem dX9_move_118 : decode cX9_move 118 = .ok (.iconst 1, 1) := by decide +kernel
theorem dX9_move_119 : decode cX9_move 119 = .ok (.iadd, 1) := by decide +kernel
theorem dX9_move_120 : decode cX9_move 120 = .ok (.putfield 226, 3) := by decide +kernel
theorem dX9_move_123 : decode cX9_move 123 = .ok (.aload_n 0, 1) := by decide +kernel
theorem dX9_move_124 : decode cX9_move 124 = .ok (.getfield 226, 3) := by decide +kernel
theorem dX9_move_127 : decode cX9_move 127 = .ok (.ireturn, 1) := by decide +kernel
theorem dX9_unitAt_0 : decode cX9_unitAt 0 = .ok (.bipush (-9), 2) := by decide +kernel
theorem dX9_unitAt_2 : decode cX9_unitAt 2 = .ok (.istore 4, 2) := by decide +kernel
theorem dX9_unitAt_4 : decode cX9_unitAt 4 = .ok (.iconst 0, 1) := by decide +kernel
theorem dX9_unitAt_5 : decode cX9_unitAt 5 = .ok (.istore 5, 2) := by decide +kernel
theorem dX9_unitAt_7 : decode cX9_unitAt 7 = .ok (.iload 5, 2) := by decide +kernel
theorem dX9_unitAt_9 : decode cX9_unitAt 9 = .ok (.aload_n 0, 1) := by decide +kernel
theorem dX9_unitAt_10 : decode cX9_unitAt 10 = .ok (.getfield 226, 3) := by decide +kernel
theorem dX9_unitAt_13 : decode cX9_unitAt 13 = .ok (.if_icmp .ge 80, 3) := by decide +kernel
theorem dX9_unitAt_16 : decode cX9_unitAt 16 = .ok (.aload_n 0, 1) := by decide +kernel
theorem dX9_unitAt_17 : decode cX9_unitAt 17 = .ok (.getfield 47, 3) := by decide +kernel
theorem dX9_unitAt_20 : decode cX9_unitAt 20 = .ok (.iload 5, 2) := by decide +kernel
theorem dX9_unitAt_22 : decode cX9_unitAt 22 = .ok (.iaload, 1) := by decide +kernel
theorem dX9_unitAt_23 : decode cX9_unitAt 23 = .ok (.iload_n 1, 1) := by decide +kernel
theorem dX9_unitAt_24 : decode cX9_unitAt 24 = .ok (.if_icmp .ne 63, 3) := by decide +kernel
theorem dX9_unitAt_27 : decode cX9_unitAt 27 = .ok (.aload_n 0, 1) := by decide +kernel
theorem dX9_unitAt_28 : decode cX9_unitAt 28 = .ok (.getfield 53, 3) := by decide +kernel
theorem dX9_unitAt_31 : decode cX9_unitAt 31 = .ok (.iload 5, 2) := by decide +kernel
theorem dX9_unitAt_33 : decode cX9_unitAt 33 = .ok (.iaload, 1) := by decide +kernel
theorem dX9_unitAt_34 : decode cX9_unitAt 34 = .ok (.iload_n 2, 1) := by decide +kernel
theorem dX9_unitAt_35 : decode cX9_unitAt 35 = .ok (.if_icmp .gt 52, 3) := by decide +kernel
theorem dX9_unitAt_38 : decode cX9_unitAt 38 = .ok (.iload_n 3, 1) := by decide +kernel
theorem dX9_unitAt_39 : decode cX9_unitAt 39 = .ok (.ifCond .lt 22, 3) := by decide +kernel
theorem dX9_unitAt_42 : decode cX9_unitAt 42 = .ok (.aload_n 0, 1) := by decide +kernel
theorem dX9_unitAt_43 : decode cX9_unitAt 43 = .ok (.aload_n 0, 1) := by decide +kernel
theorem dX9_unitAt_44 : decode cX9_unitAt 44 = .ok (.getfield 56, 3) := by decide +kernel
theorem dX9_unitAt_47 : decode cX9_unitAt 47 = .ok (.iload 5, 2) := by decide +kernel
theorem dX9_unitAt_49 : decode cX9_unitAt 49 = .ok (.iaload, 1) := by decide +kernel
theorem dX9_unitAt_50 : decode cX9_unitAt 50 = .ok (.iload_n 3, 1) := by decide +kernel
theorem dX9_unitAt_51 : decode cX9_unitAt 51 = .ok (.iload_n 2, 1) := by decide +kernel
theorem dX9_unitAt_52 : decode cX9_unitAt 52 = .ok (.invokevirtual 229, 3) := by decide +kernel
theorem dX9_unitAt_55 : decode cX9_unitAt 55 = .ok (.ifCond .ne 6, 3) := by decide +kernel
theorem dX9_unitAt_58 : decode cX9_unitAt 58 = .ok (.goto 29, 3) := by decide +kernel
theorem dX9_unitAt_61 : decode cX9_unitAt 61 = .ok (.iload 4, 2) := by decide +kernel
theorem dX9_unitAt_63 : decode cX9_unitAt 63 = .ok (.ifCond .lt 20, 3) := by decide +kernel
theorem dX9_unitAt_66 : decode cX9_unitAt 66 = .ok (.aload_n 0, 1) := by decide +kernel
theorem dX9_unitAt_67 : decode cX9_unitAt 67 = .ok (.getfield 53, 3) := by decide +kernel
theorem dX9_unitAt_70 : decode cX9_unitAt 70 = .ok (.iload 5, 2) := by decide +kernel
theorem dX9_unitAt_72 : decode cX9_unitAt 72 = .ok (.iaload, 1) := by decide +kernel
theorem dX9_unitAt_73 : decode cX9_unitAt 73 = .ok (.aload_n 0, 1) := by decide +kernel
theorem dX9_unitAt_74 : decode cX9_unitAt 74 = .ok (.getfield 53, 3) := by decide +kernel
theorem dX9_unitAt_77 : decode cX9_unitAt 77 = .ok (.iload 4, 2) := by decide +kernel
theorem dX9_unitAt_79 : decode cX9_unitAt 79 = .ok (.iaload, 1) := by decide +kernel
theorem dX9_unitAt_80 : decode cX9_unitAt 80 = .ok (.if_icmp .lt 7, 3) := by decide +kernel
theorem dX9_unitAt_83 : decode cX9_unitAt 83 = .ok (.iload 5, 2) := by decide +kernel
theorem dX9_unitAt_85 : decode cX9_unitAt 85 = .ok (.istore 4, 2) := by decide +kernel
theorem dX9_unitAt_87 : decode cX9_unitAt 87 = .ok (.iinc 5 1, 3) := by decide +kernel
theorem dX9_unitAt_90 : decode cX9_unitAt 90 = .ok (.goto (-83), 3) := by decide +kernel
theorem dX9_unitAt_93 : decode cX9_unitAt 93 = .ok (.iload 4, 2) := by decide +kernel
theorem dX9_unitAt_95 : decode cX9_unitAt 95 = .ok (.ifCond .ge 8, 3) := by decide +kernel
theorem dX9_unitAt_98 : decode cX9_unitAt 98 = .ok (.bipush (-9), 2) := by decide +kernel
theorem dX9_unitAt_100 : decode cX9_unitAt 100 = .ok (.goto 10, 3) := by decide +kernel
theorem dX9_unitAt_103 : decode cX9_unitAt 103 = .ok (.aload_n 0, 1) := by decide +kernel
theorem dX9_unitAt_104 : decode cX9_unitAt 104 = .ok (.getfield 50, 3) := by decide +kernel
theorem dX9_unitAt_107 : decode cX9_unitAt 107 = .ok (.iload 4, 2) := by decide +kernel
theorem dX9_unitAt_109 : decode cX9_unitAt 109 = .ok (.iaload, 1) := by decide +kernel
theorem dX9_unitAt_110 : decode cX9_unitAt 110 = .ok (.ireturn, 1) := by decide +kernel
theorem dX9_is_0 : decode cX9_is 0 = .ok (.iload_n 1, 1) := by decide +kernel
theorem dX9_is_1 : decode cX9_is 1 = .ok (.invokestatic 223, 3) := by decide +kernel
theorem dX9_is_4 : decode cX9_is 4 = .ok (.ifCond .ne 9, 3) := by decide +kernel
theorem dX9_is_7 : decode cX9_is 7 = .ok (.aload_n 0, 1) := by decide +kernel
theorem dX9_is_8 : decode cX9_is 8 = .ok (.iconst (-1), 1) := by decide +kernel
theorem dX9_is_9 : decode cX9_is 9 = .ok (.invokevirtual 192, 3) := by decide +kernel
theorem dX9_is_12 : decode cX9_is 12 = .ok (.ireturn, 1) := by decide +kernel
theorem dX9_is_13 : decode cX9_is 13 = .ok (.iload_n 2, 1) := by decide +kernel
theorem dX9_is_14 : decode cX9_is 14 = .ok (.i2l, 1) := by decide +kernel
theorem dX9_is_15 : decode cX9_is 15 = .ok (.lconst 0, 1) := by decide +kernel
theorem dX9_is_16 : decode cX9_is 16 = .ok (.ldc2_w 233, 3) := by decide +kernel
theorem dX9_is_19 : decode cX9_is 19 = .ok (.invokestatic 188, 3) := by decide +kernel
theorem dX9_is_22 : decode cX9_is 22 = .ok (.istore_n 3, 1) := by decide +kernel
theorem dX9_is_23 : decode cX9_is 23 = .ok (.iload_n 3, 1) := by decide +kernel
theorem dX9_is_24 : decode cX9_is 24 = .ok (.ifCond .eq 11, 3) := by decide +kernel
theorem dX9_is_27 : decode cX9_is 27 = .ok (.aload_n 0, 1) := by decide +kernel
theorem dX9_is_28 : decode cX9_is 28 = .ok (.iload_n 3, 1) := by decide +kernel
theorem dX9_is_29 : decode cX9_is 29 = .ok (.invokevirtual 192, 3) := by decide +kernel
theorem dX9_is_32 : decode cX9_is 32 = .ok (.goto 10, 3) := by decide +kernel
theorem dX9_is_35 : decode cX9_is 35 = .ok (.aload_n 0, 1) := by decide +kernel
theorem dX9_is_36 : decode cX9_is 36 = .ok (.iload_n 1, 1) := by decide +kernel
theorem dX9_is_37 : decode cX9_is 37 = .ok (.iload_n 2, 1) := by decide +kernel
theorem dX9_is_38 : decode cX9_is 38 = .ok (.iconst (-1), 1) := by decide +kernel
theorem dX9_is_39 : decode cX9_is 39 = .ok (.invokevirtual 235, 3) := by decide +kernel
theorem dX9_is_42 : decode cX9_is 42 = .ok (.ireturn, 1) := by decide +kernel
theorem dX9_list_0 : decode cX9_list 0 = .ok (.aload_n 0, 1) := by decide +kernel
theorem dX9_list_1 : decode cX9_list 1 = .ok (.iload_n 1, 1) := by decide +kernel
theorem dX9_list_2 : decode cX9_list 2 = .ok (.invokevirtual 196, 3) := by decide +kernel
theorem dX9_list_5 : decode cX9_list 5 = .ok (.ifCond .eq 10, 3) := by decide +kernel
theorem dX9_list_8 : decode cX9_list 8 = .ok (.iload_n 2, 1) := by decide +kernel
theorem dX9_list_9 : decode cX9_list 9 = .ok (.invokestatic 223, 3) := by decide +kernel
theorem dX9_list_12 : decode cX9_list 12 = .ok (.ifCond .ne 9, 3) := by decide +kernel
theorem dX9_list_15 : decode cX9_list 15 = .ok (.aload_n 0, 1) := by decide +kernel
theorem dX9_list_16 : decode cX9_list 16 = .ok (.iconst (-1), 1) := by decide +kernel
theorem dX9_list_17 : decode cX9_list 17 = .ok (.invokevirtual 192, 3) := by decide +kernel
theorem dX9_list_20 : decode cX9_list 20 = .ok (.ireturn, 1) := by decide +kernel
theorem dX9_list_21 : decode cX9_list 21 = .ok (.iload_n 3, 1) := by decide +kernel
theorem dX9_list_22 : decode cX9_list 22 = .ok (.i2l, 1) := by decide +kernel
theorem dX9_list_23 : decode cX9_list 23 = .ok (.lconst 0, 1) := by decide +kernel
theorem dX9_list_24 : decode cX9_list 24 = .ok (.ldc2_w 233, 3) := by decide +kernel
theorem dX9_list_27 : decode cX9_list 27 = .ok (.invokestatic 188, 3) := by decide +kernel
theorem dX9_list_30 : decode cX9_list 30 = .ok (.istore 4, 2) := by decide +kernel
theorem dX9_list_32 : decode cX9_list 32 = .ok (.iload 4, 2) := by decide +kernel
theorem dX9_list_34 : decode cX9_list 34 = .ok (.ifCond .eq 10, 3) := by decide +kernel
theorem dX9_list_37 : decode cX9_list 37 = .ok (.aload_n 0, 1) := by decide +kernel
theorem dX9_list_38 : decode cX9_list 38 = .ok (.iload 4, 2) := by decide +kernel
theorem dX9_list_40 : decode cX9_list 40 = .ok (.invokevirtual 192, 3) := by decide +kernel
theorem dX9_list_43 : decode cX9_list 43 = .ok (.ireturn, 1) := by decide +kernel
theorem dX9_list_44 : decode cX9_list 44 = .ok (.aload_n 0, 1) := by decide +kernel
theorem dX9_list_45 : decode cX9_list 45 = .ok (.invokevirtual 214, 3) := by decide +kernel
theorem dX9_list_48 : decode cX9_list 48 = .ok (.aload_n 0, 1) := by decide +kernel
theorem dX9_list_49 : decode cX9_list 49 = .ok (.iload_n 2, 1) := by decide +kernel
theorem dX9_list_50 : decode cX9_list 50 = .ok (.iload_n 3, 1) := by decide +kernel
theorem dX9_list_51 : decode cX9_list 51 = .ok (.iload_n 1, 1) := by decide +kernel
theorem dX9_list_52 : decode cX9_list 52 = .ok (.invokevirtual 235, 3) := by decide +kernel
theorem dX9_list_55 : decode cX9_list 55 = .ok (.ireturn, 1) := by decide +kernel
theorem dX9_man_0 : decode cX9_man 0 = .ok (.iload_n 1, 1) := by decide +kernel
theorem dX9_man_1 : decode cX9_man 1 = .ok (.invokestatic 223, 3) := by decide +kernel
theorem dX9_man_4 : decode cX9_man 4 = .ok (.ifCond .ne 9, 3) := by decide +kernel
theorem dX9_man_7 : decode cX9_man 7 = .ok (.aload_n 0, 1) := by decide +kernel
theorem dX9_man_8 : decode cX9_man 8 = .ok (.iconst (-1), 1) := by decide +kernel
theorem dX9_man_9 : decode cX9_man 9 = .ok (.invokevirtual 192, 3) := by decide +kernel
theorem dX9_man_12 : decode cX9_man 12 = .ok (.ireturn, 1) := by decide +kernel
theorem dX9_man_13 : decode cX9_man 13 = .ok (.iload_n 2, 1) := by decide +kernel
theorem dX9_man_14 : decode cX9_man 14 = .ok (.i2l, 1) := by decide +kernel
theorem dX9_man_15 : decode cX9_man 15 = .ok (.lconst 0, 1) := by decide +kernel
theorem dX9_man_16 : decode cX9_man 16 = .ok (.ldc2_w 239, 3) := by decide +kernel
theorem dX9_man_19 : decode cX9_man 19 = .ok (.invokestatic 188, 3) := by decide +kernel
theorem dX9_man_22 : decode cX9_man 22 = .ok (.istore_n 3, 1) := by decide +kernel
theorem dX9_man_23 : decode cX9_man 23 = .ok (.iload_n 3, 1) := by decide +kernel
theorem dX9_man_24 : decode cX9_man 24 = .ok (.ifCond .ne 15, 3) := by decide +kernel
theorem dX9_man_27 : decode cX9_man 27 = .ok (.aload_n 0, 1) := by decide +kernel
theorem dX9_man_28 : decode cX9_man 28 = .ok (.getfield 220, 3) := by decide +kernel
theorem dX9_man_31 : decode cX9_man 31 = .ok (.bipush 40, 2) := by decide +kernel
theorem dX9_man_33 : decode cX9_man 33 = .ok (.if_icmp .ne 6, 3) := by decide +kernel
theorem dX9_man_36 : decode cX9_man 36 = .ok (.bipush (-6), 2) := by decide +kernel
theorem dX9_man_38 : decode cX9_man 38 = .ok (.istore_n 3, 1) := by decide +kernel
theorem dX9_man_39 : decode cX9_man 39 = .ok (.iload_n 3, 1) := by decide +kernel
theorem dX9_man_40 : decode cX9_man 40 = .ok (.ifCond .eq 9, 3) := by decide +kernel
theorem dX9_man_43 : decode cX9_man 43 = .ok (.aload_n 0, 1) := by decide +kernel
theorem dX9_man_44 : decode cX9_man 44 = .ok (.iload_n 3, 1) := by decide +kernel
theorem dX9_man_45 : decode cX9_man 45 = .ok (.invokevirtual 192, 3) := by decide +kernel
theorem dX9_man_48 : decode cX9_man 48 = .ok (.ireturn, 1) := by decide +kernel
theorem dX9_man_49 : decode cX9_man 49 = .ok (.aload_n 0, 1) := by decide +kernel
theorem dX9_man_50 : decode cX9_man 50 = .ok (.getfield 59, 3) := by decide +kernel
theorem dX9_man_53 : decode cX9_man 53 = .ok (.aload_n 0, 1) := by decide +kernel
theorem dX9_man_54 : decode cX9_man 54 = .ok (.getfield 220, 3) := by decide +kernel
theorem dX9_man_57 : decode cX9_man 57 = .ok (.iload_n 1, 1) := by decide +kernel
theorem dX9_man_58 : decode cX9_man 58 = .ok (.iastore, 1) := by decide +kernel
theorem dX9_man_59 : decode cX9_man 59 = .ok (.aload_n 0, 1) := by decide +kernel
theorem dX9_man_60 : decode cX9_man 60 = .ok (.getfield 62, 3) := by decide +kernel
theorem dX9_man_63 : decode cX9_man 63 = .ok (.aload_n 0, 1) := by decide +kernel
theorem dX9_man_64 : decode cX9_man 64 = .ok (.getfield 220, 3) := by decide +kernel
theorem dX9_man_67 : decode cX9_man 67 = .ok (.iload_n 2, 1) := by decide +kernel
theorem dX9_man_68 : decode cX9_man 68 = .ok (.iastore, 1) := by decide +kernel
theorem dX9_man_69 : decode cX9_man 69 = .ok (.aload_n 0, 1) := by decide +kernel
theorem dX9_man_70 : decode cX9_man 70 = .ok (.dup, 1) := by decide +kernel
theorem dX9_man_71 : decode cX9_man 71 = .ok (.getfield 220, 3) := by decide +kernel
theorem dX9_man_74 : decode cX9_man 74 = .ok (.iconst 1, 1) := by decide +kernel
theorem dX9_man_75 : decode cX9_man 75 = .ok (.iadd, 1) := by decide +kernel
theorem dX9_man_76 : decode cX9_man 76 = .ok (.putfield 220, 3) := by decide +kernel
theorem dX9_man_79 : decode cX9_man 79 = .ok (.aload_n 0, 1) := by decide +kernel
theorem dX9_man_80 : decode cX9_man 80 = .ok (.getfield 220, 3) := by decide +kernel
theorem dX9_man_83 : decode cX9_man 83 = .ok (.iconst 1, 1) := by decide +kernel
theorem dX9_man_84 : decode cX9_man 84 = .ok (.isub, 1) := by decide +kernel
theorem dX9_man_85 : decode cX9_man 85 = .ok (.ireturn, 1) := by decide +kernel
theorem dX9_state_0 : decode cX9_state 0 = .ok (.aload_n 0, 1) := by decide +kernel
theorem dX9_state_1 : decode cX9_state 1 = .ok (.iload_n 1, 1) := by decide +kernel
theorem dX9_state_2 : decode cX9_state 2 = .ok (.invokevirtual 241, 3) := by decide +kernel
theorem dX9_state_5 : decode cX9_state 5 = .ok (.ifCond .eq 16, 3) := by decide +kernel
theorem dX9_state_8 : decode cX9_state 8 = .ok (.iload_n 2, 1) := by decide +kernel
theorem dX9_state_9 : decode cX9_state 9 = .ok (.iconst 1, 1) := by decide +kernel
theorem dX9_state_10 : decode cX9_state 10 = .ok (.if_icmp .ne 17, 3) := by decide +kernel
theorem dX9_state_13 : decode cX9_state 13 = .ok (.aload_n 0, 1) := by decide +kernel
theorem dX9_state_14 : decode cX9_state 14 = .ok (.iload_n 3, 1) := by decide +kernel
theorem dX9_state_15 : decode cX9_state 15 = .ok (.invokevirtual 196, 3) := by decide +kernel
theorem dX9_state_18 : decode cX9_state 18 = .ok (.ifCond .ne 9, 3) := by decide +kernel
theorem dX9_state_21 : decode cX9_state 21 = .ok (.aload_n 0, 1) := by decide +kernel
theorem dX9_state_22 : decode cX9_state 22 = .ok (.iconst (-1), 1) := by decide +kernel
theorem dX9_state_23 : decode cX9_state 23 = .ok (.invokevirtual 192, 3) := by decide +kernel
theorem dX9_state_26 : decode cX9_state 26 = .ok (.ireturn, 1) := by decide +kernel
theorem dX9_state_27 : decode cX9_state 27 = .ok (.iload_n 2, 1) := by decide +kernel
theorem dX9_state_28 : decode cX9_state 28 = .ok (.i2l, 1) := by decide +kernel
theorem dX9_state_29 : decode cX9_state 29 = .ok (.lconst 0, 1) := by decide +kernel
theorem dX9_state_30 : decode cX9_state 30 = .ok (.ldc2_w 244, 3) := by decide +kernel
theorem dX9_state_33 : decode cX9_state 33 = .ok (.invokestatic 203, 3) := by decide +kernel
theorem dX9_state_36 : decode cX9_state 36 = .ok (.ifCond .ne 10, 3) := by decide +kernel
theorem dX9_state_39 : decode cX9_state 39 = .ok (.aload_n 0, 1) := by decide +kernel
theorem dX9_state_40 : decode cX9_state 40 = .ok (.bipush (-2), 2) := by decide +kernel
theorem dX9_state_42 : decode cX9_state 42 = .ok (.invokevirtual 192, 3) := by decide +kernel
theorem dX9_state_45 : decode cX9_state 45 = .ok (.ireturn, 1) := by decide +kernel
theorem dX9_state_46 : decode cX9_state 46 = .ok (.aload_n 0, 1) := by decide +kernel
theorem dX9_state_47 : decode cX9_state 47 = .ok (.getfield 246, 3) := by decide +kernel
theorem dX9_state_50 : decode cX9_state 50 = .ok (.bipush 80, 2) := by decide +kernel
theorem dX9_state_52 : decode cX9_state 52 = .ok (.if_icmp .ne 10, 3) := by decide +kernel
theorem dX9_state_55 : decode cX9_state 55 = .ok (.aload_n 0, 1) := by decide +kernel
theorem dX9_state_56 : decode cX9_state 56 = .ok (.bipush (-6), 2) := by decide +kernel
theorem dX9_state_58 : decode cX9_state 58 = .ok (.invokevirtual 192, 3) := by decide +kernel
theorem dX9_state_61 : decode cX9_state 61 = .ok (.ireturn, 1) := by decide +kernel
theorem dX9_state_62 : decode cX9_state 62 = .ok (.aload_n 0, 1) := by decide +kernel
theorem dX9_state_63 : decode cX9_state 63 = .ok (.getfield 65, 3) := by decide +kernel
theorem dX9_state_66 : decode cX9_state 66 = .ok (.aload_n 0, 1) := by decide +kernel
theorem dX9_state_67 : decode cX9_state 67 = .ok (.getfield 246, 3) := by decide +kernel
theorem dX9_state_70 : decode cX9_state 70 = .ok (.iload_n 1, 1) := by decide +kernel
theorem dX9_state_71 : decode cX9_state 71 = .ok (.iastore, 1) := by decide +kernel
theorem dX9_state_72 : decode cX9_state 72 = .ok (.aload_n 0, 1) := by decide +kernel
theorem dX9_state_73 : decode cX9_state 73 = .ok (.getfield 68, 3) := by decide +kernel
theorem dX9_state_76 : decode cX9_state 76 = .ok (.aload_n 0, 1) := by decide +kernel
theorem dX9_state_77 : decode cX9_state 77 = .ok (.getfield 246, 3) := by decide +kernel
theorem dX9_state_80 : decode cX9_state 80 = .ok (.iload_n 2, 1) := by decide +kernel
theorem dX9_state_81 : decode cX9_state 81 = .ok (.iastore, 1) := by decide +kernel
theorem dX9_state_82 : decode cX9_state 82 = .ok (.aload_n 0, 1) := by decide +kernel
theorem dX9_state_83 : decode cX9_state 83 = .ok (.getfield 71, 3) := by decide +kernel
theorem dX9_state_86 : decode cX9_state 86 = .ok (.aload_n 0, 1) := by decide +kernel
theorem dX9_state_87 : decode cX9_state 87 = .ok (.getfield 246, 3) := by decide +kernel
theorem dX9_state_90 : decode cX9_state 90 = .ok (.iload_n 3, 1) := by decide +kernel
theorem dX9_state_91 : decode cX9_state 91 = .ok (.iastore, 1) := by decide +kernel
theorem dX9_state_92 : decode cX9_state 92 = .ok (.aload_n 0, 1) := by decide +kernel
theorem dX9_state_93 : decode cX9_state 93 = .ok (.getfield 74, 3) := by decide +kernel
theorem dX9_state_96 : decode cX9_state 96 = .ok (.aload_n 0, 1) := by decide +kernel
theorem dX9_state_97 : decode cX9_state 97 = .ok (.getfield 246, 3) := by decide +kernel
theorem dX9_state_100 : decode cX9_state 100 = .ok (.aload_n 0, 1) := by decide +kernel
theorem dX9_state_101 : decode cX9_state 101 = .ok (.getfield 207, 3) := by decide +kernel
theorem dX9_state_104 : decode cX9_state 104 = .ok (.iastore, 1) := by decide +kernel
theorem dX9_state_105 : decode cX9_state 105 = .ok (.aload_n 0, 1) := by decide +kernel
theorem dX9_state_106 : decode cX9_state 106 = .ok (.dup, 1) := by decide +kernel
theorem dX9_state_107 : decode cX9_state 107 = .ok (.getfield 246, 3) := by decide +kernel
theorem dX9_state_110 : decode cX9_state 110 = .ok (.iconst 1, 1) := by decide +kernel
theorem dX9_state_111 : decode cX9_state 111 = .ok (.iadd, 1) := by decide +kernel
theorem dX9_state_112 : decode cX9_state 112 = .ok (.putfield 246, 3) := by decide +kernel
theorem dX9_state_115 : decode cX9_state 115 = .ok (.aload_n 0, 1) := by decide +kernel
theorem dX9_state_116 : decode cX9_state 116 = .ok (.getfield 246, 3) := by decide +kernel
theorem dX9_state_119 : decode cX9_state 119 = .ok (.ireturn, 1) := by decide +kernel
theorem dX9_latest_0 : decode cX9_latest 0 = .ok (.bipush (-9), 2) := by decide +kernel
theorem dX9_latest_2 : decode cX9_latest 2 = .ok (.istore 4, 2) := by decide +kernel
theorem dX9_latest_4 : decode cX9_latest 4 = .ok (.iconst 0, 1) := by decide +kernel
theorem dX9_latest_5 : decode cX9_latest 5 = .ok (.istore 5, 2) := by decide +kernel
theorem dX9_latest_7 : decode cX9_latest 7 = .ok (.iload 5, 2) := by decide +kernel
theorem dX9_latest_9 : decode cX9_latest 9 = .ok (.aload_n 0, 1) := by decide +kernel
theorem dX9_latest_10 : decode cX9_latest 10 = .ok (.getfield 246, 3) := by decide +kernel
theorem dX9_latest_13 : decode cX9_latest 13 = .ok (.if_icmp .ge 45, 3) := by decide +kernel
theorem dX9_latest_16 : decode cX9_latest 16 = .ok (.aload_n 0, 1) := by decide +kernel
theorem dX9_latest_17 : decode cX9_latest 17 = .ok (.getfield 65, 3) := by decide +kernel
theorem dX9_latest_20 : decode cX9_latest 20 = .ok (.iload 5, 2) := by decide +kernel
theorem dX9_latest_22 : decode cX9_latest 22 = .ok (.iaload, 1) := by decide +kernel
theorem dX9_latest_23 : decode cX9_latest 23 = .ok (.iload_n 1, 1) := by decide +kernel
theorem dX9_latest_24 : decode cX9_latest 24 = .ok (.if_icmp .ne 24, 3) := by decide +kernel
theorem dX9_latest_27 : decode cX9_latest 27 = .ok (.aload_n 0, 1) := by decide +kernel
theorem dX9_latest_28 : decode cX9_latest 28 = .ok (.aload_n 0, 1) := by decide +kernel
theorem dX9_latest_29 : decode cX9_latest 29 = .ok (.getfield 74, 3) := by decide +kernel
theorem dX9_latest_32 : decode cX9_latest 32 = .ok (.iload 5, 2) := by decide +kernel
theorem dX9_latest_34 : decode cX9_latest 34 = .ok (.iaload, 1) := by decide +kernel
theorem dX9_latest_35 : decode cX9_latest 35 = .ok (.iload_n 3, 1) := by decide +kernel
theorem dX9_latest_36 : decode cX9_latest 36 = .ok (.iload_n 2, 1) := by decide +kernel
theorem dX9_latest_37 : decode cX9_latest 37 = .ok (.invokevirtual 229, 3) := by decide +kernel
theorem dX9_latest_40 : decode cX9_latest 40 = .ok (.ifCond .eq 8, 3) := by decide +kernel
theorem dX9_latest_43 : decode cX9_latest 43 = .ok (.iload 5, 2) := by decide +kernel
theorem dX9_latest_45 : decode cX9_latest 45 = .ok (.goto 5, 3) := by decide +kernel
theorem dX9_latest_48 : decode cX9_latest 48 = .ok (.iload 4, 2) := by decide +kernel
theorem dX9_latest_50 : decode cX9_latest 50 = .ok (.istore 4, 2) := by decide +kernel
theorem dX9_latest_52 : decode cX9_latest 52 = .ok (.iinc 5 1, 3) := by decide +kernel
theorem dX9_latest_55 : decode cX9_latest 55 = .ok (.goto (-48), 3) := by decide +kernel
theorem dX9_latest_58 : decode cX9_latest 58 = .ok (.iload 4, 2) := by decide +kernel
theorem dX9_latest_60 : decode cX9_latest 60 = .ok (.ireturn, 1) := by decide +kernel
theorem dX9_stateAt_0 : decode cX9_stateAt 0 = .ok (.aload_n 0, 1) := by decide +kernel
theorem dX9_stateAt_1 : decode cX9_stateAt 1 = .ok (.iload_n 1, 1) := by decide +kernel
theorem dX9_stateAt_2 : decode cX9_stateAt 2 = .ok (.iload_n 2, 1) := by decide +kernel
theorem dX9_stateAt_3 : decode cX9_stateAt 3 = .ok (.iload_n 3, 1) := by decide +kernel
theorem dX9_stateAt_4 : decode cX9_stateAt 4 = .ok (.invokevirtual 249, 3) := by decide +kernel
theorem dX9_stateAt_7 : decode cX9_stateAt 7 = .ok (.istore 4, 2) := by decide +kernel
theorem dX9_stateAt_9 : decode cX9_stateAt 9 = .ok (.iload 4, 2) := by decide +kernel
theorem dX9_stateAt_11 : decode cX9_stateAt 11 = .ok (.ifCond .ge 7, 3) := by decide +kernel
theorem dX9_stateAt_14 : decode cX9_stateAt 14 = .ok (.iconst 0, 1) := by decide +kernel
theorem dX9_stateAt_15 : decode cX9_stateAt 15 = .ok (.goto 10, 3) := by decide +kernel
theorem dX9_stateAt_18 : decode cX9_stateAt 18 = .ok (.aload_n 0, 1) := by decide +kernel
theorem dX9_stateAt_19 : decode cX9_stateAt 19 = .ok (.getfield 68, 3) := by decide +kernel
theorem dX9_stateAt_22 : decode cX9_stateAt 22 = .ok (.iload 4, 2) := by decide +kernel
theorem dX9_stateAt_24 : decode cX9_stateAt 24 = .ok (.iaload, 1) := by decide +kernel
theorem dX9_stateAt_25 : decode cX9_stateAt 25 = .ok (.ireturn, 1) := by decide +kernel
theorem dX9_stateOf_0 : decode cX9_stateOf 0 = .ok (.aload_n 0, 1) := by decide +kernel
theorem dX9_stateOf_1 : decode cX9_stateOf 1 = .ok (.iload_n 1, 1) := by decide +kernel
theorem dX9_stateOf_2 : decode cX9_stateOf 2 = .ok (.invokevirtual 241, 3) := by decide +kernel
theorem dX9_stateOf_5 : decode cX9_stateOf 5 = .ok (.ifCond .eq 16, 3) := by decide +kernel
theorem dX9_stateOf_8 : decode cX9_stateOf 8 = .ok (.iload_n 3, 1) := by decide +kernel
theorem dX9_stateOf_9 : decode cX9_stateOf 9 = .ok (.iconst (-1), 1) := by decide +kernel
theorem dX9_stateOf_10 : decode cX9_stateOf 10 = .ok (.if_icmp .eq 17, 3) := by decide +kernel
theorem dX9_stateOf_13 : decode cX9_stateOf 13 = .ok (.aload_n 0, 1) := by decide +kernel
theorem dX9_stateOf_14 : decode cX9_stateOf 14 = .ok (.iload_n 3, 1) := by decide +kernel
theorem dX9_stateOf_15 : decode cX9_stateOf 15 = .ok (.invokevirtual 196, 3) := by decide +kernel
theorem dX9_stateOf_18 : decode cX9_stateOf 18 = .ok (.ifCond .ne 9, 3) := by decide +kernel
theorem dX9_stateOf_21 : decode cX9_stateOf 21 = .ok (.aload_n 0, 1) := by decide +kernel
theorem dX9_stateOf_22 : decode cX9_stateOf 22 = .ok (.iconst (-1), 1) := by decide +kernel
theorem dX9_stateOf_23 : decode cX9_stateOf 23 = .ok (.invokevirtual 192, 3) := by decide +kernel
theorem dX9_stateOf_26 : decode cX9_stateOf 26 = .ok (.ireturn, 1) := by decide +kernel
theorem dX9_stateOf_27 : decode cX9_stateOf 27 = .ok (.iload_n 2, 1) := by decide +kernel
theorem dX9_stateOf_28 : decode cX9_stateOf 28 = .ok (.i2l, 1) := by decide +kernel
theorem dX9_stateOf_29 : decode cX9_stateOf 29 = .ok (.lconst 0, 1) := by decide +kernel
theorem dX9_stateOf_30 : decode cX9_stateOf 30 = .ok (.ldc2_w 233, 3) := by decide +kernel
theorem dX9_stateOf_33 : decode cX9_stateOf 33 = .ok (.invokestatic 188, 3) := by decide +kernel
theorem dX9_stateOf_36 : decode cX9_stateOf 36 = .ok (.istore 4, 2) := by decide +kernel
theorem dX9_stateOf_38 : decode cX9_stateOf 38 = .ok (.iload 4, 2) := by decide +kernel
theorem dX9_stateOf_40 : decode cX9_stateOf 40 = .ok (.ifCond .eq 10, 3) := by decide +kernel
theorem dX9_stateOf_43 : decode cX9_stateOf 43 = .ok (.aload_n 0, 1) := by decide +kernel
theorem dX9_stateOf_44 : decode cX9_stateOf 44 = .ok (.iload 4, 2) := by decide +kernel
theorem dX9_stateOf_46 : decode cX9_stateOf 46 = .ok (.invokevirtual 192, 3) := by decide +kernel
theorem dX9_stateOf_49 : decode cX9_stateOf 49 = .ok (.ireturn, 1) := by decide +kernel
theorem dX9_stateOf_50 : decode cX9_stateOf 50 = .ok (.aload_n 0, 1) := by decide +kernel
theorem dX9_stateOf_51 : decode cX9_stateOf 51 = .ok (.invokevirtual 214, 3) := by decide +kernel
theorem dX9_stateOf_54 : decode cX9_stateOf 54 = .ok (.aload_n 0, 1) := by decide +kernel
theorem dX9_stateOf_55 : decode cX9_stateOf 55 = .ok (.iload_n 1, 1) := by decide +kernel
theorem dX9_stateOf_56 : decode cX9_stateOf 56 = .ok (.iload_n 2, 1) := by decide +kernel
theorem dX9_stateOf_57 : decode cX9_stateOf 57 = .ok (.iload_n 3, 1) := by decide +kernel
theorem dX9_stateOf_58 : decode cX9_stateOf 58 = .ok (.invokevirtual 252, 3) := by decide +kernel
theorem dX9_stateOf_61 : decode cX9_stateOf 61 = .ok (.ireturn, 1) := by decide +kernel
theorem dX9_whereIs_0 : decode cX9_whereIs 0 = .ok (.aload_n 0, 1) := by decide +kernel
theorem dX9_whereIs_1 : decode cX9_whereIs 1 = .ok (.iload_n 1, 1) := by decide +kernel
theorem dX9_whereIs_2 : decode cX9_whereIs 2 = .ok (.iload_n 2, 1) := by decide +kernel
theorem dX9_whereIs_3 : decode cX9_whereIs 3 = .ok (.iconst (-1), 1) := by decide +kernel
theorem dX9_whereIs_4 : decode cX9_whereIs 4 = .ok (.invokevirtual 249, 3) := by decide +kernel
theorem dX9_whereIs_7 : decode cX9_whereIs 7 = .ok (.istore_n 3, 1) := by decide +kernel
theorem dX9_whereIs_8 : decode cX9_whereIs 8 = .ok (.iload_n 3, 1) := by decide +kernel
theorem dX9_whereIs_9 : decode cX9_whereIs 9 = .ok (.ifCond .ge 7, 3) := by decide +kernel
theorem dX9_whereIs_12 : decode cX9_whereIs 12 = .ok (.iconst 0, 1) := by decide +kernel
theorem dX9_whereIs_13 : decode cX9_whereIs 13 = .ok (.goto 9, 3) := by decide +kernel
theorem dX9_whereIs_16 : decode cX9_whereIs 16 = .ok (.aload_n 0, 1) := by decide +kernel
theorem dX9_whereIs_17 : decode cX9_whereIs 17 = .ok (.getfield 68, 3) := by decide +kernel
theorem dX9_whereIs_20 : decode cX9_whereIs 20 = .ok (.iload_n 3, 1) := by decide +kernel
theorem dX9_whereIs_21 : decode cX9_whereIs 21 = .ok (.iaload, 1) := by decide +kernel
theorem dX9_whereIs_22 : decode cX9_whereIs 22 = .ok (.istore 4, 2) := by decide +kernel
theorem dX9_whereIs_24 : decode cX9_whereIs 24 = .ok (.iload 4, 2) := by decide +kernel
theorem dX9_whereIs_26 : decode cX9_whereIs 26 = .ok (.ifCond .ne 18, 3) := by decide +kernel
theorem dX9_whereIs_29 : decode cX9_whereIs 29 = .ok (.aload_n 0, 1) := by decide +kernel
theorem dX9_whereIs_30 : decode cX9_whereIs 30 = .ok (.aload_n 0, 1) := by decide +kernel
theorem dX9_whereIs_31 : decode cX9_whereIs 31 = .ok (.getfield 59, 3) := by decide +kernel
theorem dX9_whereIs_34 : decode cX9_whereIs 34 = .ok (.iload_n 1, 1) := by decide +kernel
theorem dX9_whereIs_35 : decode cX9_whereIs 35 = .ok (.iaload, 1) := by decide +kernel
theorem dX9_whereIs_36 : decode cX9_whereIs 36 = .ok (.iload_n 2, 1) := by decide +kernel
theorem dX9_whereIs_37 : decode cX9_whereIs 37 = .ok (.iconst (-1), 1) := by decide +kernel
theorem dX9_whereIs_38 : decode cX9_whereIs 38 = .ok (.invokevirtual 235, 3) := by decide +kernel
theorem dX9_whereIs_41 : decode cX9_whereIs 41 = .ok (.goto 20, 3) := by decide +kernel
theorem dX9_whereIs_44 : decode cX9_whereIs 44 = .ok (.iload 4, 2) := by decide +kernel
theorem dX9_whereIs_46 : decode cX9_whereIs 46 = .ok (.iconst 1, 1) := by decide +kernel
theorem dX9_whereIs_47 : decode cX9_whereIs 47 = .ok (.if_icmp .ne 12, 3) := by decide +kernel
theorem dX9_whereIs_50 : decode cX9_whereIs 50 = .ok (.aload_n 0, 1) := by decide +kernel
theorem dX9_whereIs_51 : decode cX9_whereIs 51 = .ok (.getfield 71, 3) := by decide +kernel
theorem dX9_whereIs_54 : decode cX9_whereIs 54 = .ok (.iload_n 3, 1) := by decide +kernel
theorem dX9_whereIs_55 : decode cX9_whereIs 55 = .ok (.iaload, 1) := by decide +kernel
theorem dX9_whereIs_56 : decode cX9_whereIs 56 = .ok (.goto 5, 3) := by decide +kernel
theorem dX9_whereIs_59 : decode cX9_whereIs 59 = .ok (.bipush (-9), 2) := by decide +kernel
theorem dX9_whereIs_61 : decode cX9_whereIs 61 = .ok (.ireturn, 1) := by decide +kernel
theorem dX9_manAt_0 : decode cX9_manAt 0 = .ok (.aload_n 0, 1) := by decide +kernel
theorem dX9_manAt_1 : decode cX9_manAt 1 = .ok (.iload_n 1, 1) := by decide +kernel
theorem dX9_manAt_2 : decode cX9_manAt 2 = .ok (.invokevirtual 241, 3) := by decide +kernel
theorem dX9_manAt_5 : decode cX9_manAt 5 = .ok (.ifCond .eq 15, 3) := by decide +kernel
theorem dX9_manAt_8 : decode cX9_manAt 8 = .ok (.aload_n 0, 1) := by decide +kernel
theorem dX9_manAt_9 : decode cX9_manAt 9 = .ok (.iload_n 1, 1) := by decide +kernel
theorem dX9_manAt_10 : decode cX9_manAt 10 = .ok (.aload_n 0, 1) := by decide +kernel
theorem dX9_manAt_11 : decode cX9_manAt 11 = .ok (.getfield 207, 3) := by decide +kernel
theorem dX9_manAt_14 : decode cX9_manAt 14 = .ok (.invokevirtual 255, 3) := by decide +kernel
theorem dX9_manAt_17 : decode cX9_manAt 17 = .ok (.goto 8, 3) := by decide +kernel
theorem dX9_manAt_20 : decode cX9_manAt 20 = .ok (.aload_n 0, 1) := by decide +kernel
theorem dX9_manAt_21 : decode cX9_manAt 21 = .ok (.iconst (-1), 1) := by decide +kernel
theorem dX9_manAt_22 : decode cX9_manAt 22 = .ok (.invokevirtual 192, 3) := by decide +kernel
theorem dX9_manAt_25 : decode cX9_manAt 25 = .ok (.ireturn, 1) := by decide +kernel
theorem dX9_isMail_0 : decode cX9_isMail 0 = .ok (.iload_n 1, 1) := by decide +kernel
theorem dX9_isMail_1 : decode cX9_isMail 1 = .ok (.ifCond .lt 15, 3) := by decide +kernel
theorem dX9_isMail_4 : decode cX9_isMail 4 = .ok (.iload_n 1, 1) := by decide +kernel
theorem dX9_isMail_5 : decode cX9_isMail 5 = .ok (.aload_n 0, 1) := by decide +kernel
theorem dX9_isMail_6 : decode cX9_isMail 6 = .ok (.getfield 259, 3) := by decide +kernel
theorem dX9_isMail_9 : decode cX9_isMail 9 = .ok (.if_icmp .ge 7, 3) := by decide +kernel
theorem dX9_isMail_12 : decode cX9_isMail 12 = .ok (.iconst 1, 1) := by decide +kernel
theorem dX9_isMail_13 : decode cX9_isMail 13 = .ok (.goto 4, 3) := by decide +kernel
theorem dX9_isMail_16 : decode cX9_isMail 16 = .ok (.iconst 0, 1) := by decide +kernel
theorem dX9_isMail_17 : decode cX9_isMail 17 = .ok (.ireturn, 1) := by decide +kernel
theorem dX9_mail_0 : decode cX9_mail 0 = .ok (.iload_n 1, 1) := by decide +kernel
theorem dX9_mail_1 : decode cX9_mail 1 = .ok (.i2l, 1) := by decide +kernel
theorem dX9_mail_2 : decode cX9_mail 2 = .ok (.lconst 0, 1) := by decide +kernel
theorem dX9_mail_3 : decode cX9_mail 3 = .ok (.ldc2_w 262, 3) := by decide +kernel
theorem dX9_mail_6 : decode cX9_mail 6 = .ok (.invokestatic 203, 3) := by decide +kernel
theorem dX9_mail_9 : decode cX9_mail 9 = .ok (.ifCond .ne 10, 3) := by decide +kernel
theorem dX9_mail_12 : decode cX9_mail 12 = .ok (.aload_n 0, 1) := by decide +kernel
theorem dX9_mail_13 : decode cX9_mail 13 = .ok (.bipush (-2), 2) := by decide +kernel
theorem dX9_mail_15 : decode cX9_mail 15 = .ok (.invokevirtual 192, 3) := by decide +kernel
theorem dX9_mail_18 : decode cX9_mail 18 = .ok (.ireturn, 1) := by decide +kernel
theorem dX9_mail_19 : decode cX9_mail 19 = .ok (.aload_n 0, 1) := by decide +kernel
theorem dX9_mail_20 : decode cX9_mail 20 = .ok (.iload_n 2, 1) := by decide +kernel
theorem dX9_mail_21 : decode cX9_mail 21 = .ok (.invokevirtual 196, 3) := by decide +kernel
theorem dX9_mail_24 : decode cX9_mail 24 = .ok (.ifCond .eq 11, 3) := by decide +kernel
theorem dX9_mail_27 : decode cX9_mail 27 = .ok (.aload_n 0, 1) := by decide +kernel
theorem dX9_mail_28 : decode cX9_mail 28 = .ok (.iload_n 3, 1) := by decide +kernel
theorem dX9_mail_29 : decode cX9_mail 29 = .ok (.invokevirtual 241, 3) := by decide +kernel
theorem dX9_mail_32 : decode cX9_mail 32 = .ok (.ifCond .ne 9, 3) := by decide +kernel
theorem dX9_mail_35 : decode cX9_mail 35 = .ok (.aload_n 0, 1) := by decide +kernel
theorem dX9_mail_36 : decode cX9_mail 36 = .ok (.iconst (-1), 1) := by decide +kernel
theorem dX9_mail_37 : decode cX9_mail 37 = .ok (.invokevirtual 192, 3) := by decide +kernel
theorem dX9_mail_40 : decode cX9_mail 40 = .ok (.ireturn, 1) := by decide +kernel
theorem dX9_mail_41 : decode cX9_mail 41 = .ok (.iload 4, 2) := by decide +kernel
theorem dX9_mail_43 : decode cX9_mail 43 = .ok (.iload_n 1, 1) := by decide +kernel
theorem dX9_mail_44 : decode cX9_mail 44 = .ok (.iconst 1, 1) := by decide +kernel
theorem dX9_mail_45 : decode cX9_mail 45 = .ok (.if_icmp .ne 7, 3) := by decide +kernel
theorem dX9_mail_48 : decode cX9_mail 48 = .ok (.iconst 1, 1) := by decide +kernel
theorem dX9_mail_49 : decode cX9_mail 49 = .ok (.goto 4, 3) := by decide +kernel
theorem dX9_mail_52 : decode cX9_mail 52 = .ok (.iconst 0, 1) := by decide +kernel
theorem dX9_mail_53 : decode cX9_mail 53 = .ok (.if_icmp .ge 8, 3) := by decide +kernel
theorem dX9_mail_56 : decode cX9_mail 56 = .ok (.bipush (-4), 2) := by decide +kernel
theorem dX9_mail_58 : decode cX9_mail 58 = .ok (.goto 46, 3) := by decide +kernel
theorem dX9_mail_61 : decode cX9_mail 61 = .ok (.iload 4, 2) := by decide +kernel
theorem dX9_mail_63 : decode cX9_mail 63 = .ok (.iload_n 1, 1) := by decide +kernel
theorem dX9_mail_64 : decode cX9_mail 64 = .ok (.ifCond .ne 8, 3) := by decide +kernel
theorem dX9_mail_67 : decode cX9_mail 67 = .ok (.bipush 99, 2) := by decide +kernel
theorem dX9_mail_69 : decode cX9_mail 69 = .ok (.goto 17, 3) := by decide +kernel
theorem dX9_mail_72 : decode cX9_mail 72 = .ok (.iload_n 1, 1) := by decide +kernel
theorem dX9_mail_73 : decode cX9_mail 73 = .ok (.iconst 1, 1) := by decide +kernel
theorem dX9_mail_74 : decode cX9_mail 74 = .ok (.if_icmp .ne 9, 3) := by decide +kernel
theorem dX9_mail_77 : decode cX9_mail 77 = .ok (.sipush 999, 3) := by decide +kernel
theorem dX9_mail_80 : decode cX9_mail 80 = .ok (.goto 6, 3) := by decide +kernel
theorem dX9_mail_83 : decode cX9_mail 83 = .ok (.sipush 9999, 3) := by decide +kernel
theorem dX9_mail_86 : decode cX9_mail 86 = .ok (.if_icmp .gt 12, 3) := by decide +kernel
theorem dX9_mail_89 : decode cX9_mail 89 = .ok (.aload_n 0, 1) := by decide +kernel
theorem dX9_mail_90 : decode cX9_mail 90 = .ok (.getfield 259, 3) := by decide +kernel
theorem dX9_mail_93 : decode cX9_mail 93 = .ok (.bipush 60, 2) := by decide +kernel
theorem dX9_mail_95 : decode cX9_mail 95 = .ok (.if_icmp .ne 8, 3) := by decide +kernel
theorem dX9_mail_98 : decode cX9_mail 98 = .ok (.bipush (-6), 2) := by decide +kernel
theorem dX9_mail_100 : decode cX9_mail 100 = .ok (.goto 4, 3) := by decide +kernel
theorem dX9_mail_103 : decode cX9_mail 103 = .ok (.iconst 0, 1) := by decide +kernel
theorem dX9_mail_104 : decode cX9_mail 104 = .ok (.istore 5, 2) := by decide +kernel
theorem dX9_mail_106 : decode cX9_mail 106 = .ok (.iload 5, 2) := by decide +kernel
theorem dX9_mail_108 : decode cX9_mail 108 = .ok (.ifCond .eq 10, 3) := by decide +kernel
theorem dX9_mail_111 : decode cX9_mail 111 = .ok (.aload_n 0, 1) := by decide +kernel
theorem dX9_mail_112 : decode cX9_mail 112 = .ok (.iload 5, 2) := by decide +kernel
theorem dX9_mail_114 : decode cX9_mail 114 = .ok (.invokevirtual 192, 3) := by decide +kernel
theorem dX9_mail_117 : decode cX9_mail 117 = .ok (.ireturn, 1) := by decide +kernel
theorem dX9_mail_118 : decode cX9_mail 118 = .ok (.aload_n 0, 1) := by decide +kernel
theorem dX9_mail_119 : decode cX9_mail 119 = .ok (.getfield 259, 3) := by decide +kernel
theorem dX9_mail_122 : decode cX9_mail 122 = .ok (.istore 6, 2) := by decide +kernel
theorem dX9_mail_124 : decode cX9_mail 124 = .ok (.aload_n 0, 1) := by decide +kernel
theorem dX9_mail_125 : decode cX9_mail 125 = .ok (.getfield 77, 3) := by decide +kernel
theorem dX9_mail_128 : decode cX9_mail 128 = .ok (.iload 6, 2) := by decide +kernel
theorem dX9_mail_130 : decode cX9_mail 130 = .ok (.iload_n 1, 1) := by decide +kernel
theorem dX9_mail_131 : decode cX9_mail 131 = .ok (.iastore, 1) := by decide +kernel
theorem dX9_mail_132 : decode cX9_mail 132 = .ok (.aload_n 0, 1) := by decide +kernel
theorem dX9_mail_133 : decode cX9_mail 133 = .ok (.getfield 83, 3) := by decide +kernel
theorem dX9_mail_136 : decode cX9_mail 136 = .ok (.iload 6, 2) := by decide +kernel
theorem dX9_mail_138 : decode cX9_mail 138 = .ok (.aload_n 0, 1) := by decide +kernel
theorem dX9_mail_139 : decode cX9_mail 139 = .ok (.getfield 207, 3) := by decide +kernel
theorem dX9_mail_142 : decode cX9_mail 142 = .ok (.iastore, 1) := by decide +kernel
theorem dX9_mail_143 : decode cX9_mail 143 = .ok (.aload_n 0, 1) := by decide +kernel
theorem dX9_mail_144 : decode cX9_mail 144 = .ok (.getfield 80, 3) := by decide +kernel
theorem dX9_mail_147 : decode cX9_mail 147 = .ok (.iload 6, 2) := by decide +kernel
theorem dX9_mail_149 : decode cX9_mail 149 = .ok (.iload_n 2, 1) := by decide +kernel
theorem dX9_mail_150 : decode cX9_mail 150 = .ok (.iastore, 1) := by decide +kernel
theorem dX9_mail_151 : decode cX9_mail 151 = .ok (.aload_n 0, 1) := by decide +kernel
theorem dX9_mail_152 : decode cX9_mail 152 = .ok (.getfield 86, 3) := by decide +kernel
theorem dX9_mail_155 : decode cX9_mail 155 = .ok (.iload 6, 2) := by decide +kernel
theorem dX9_mail_157 : decode cX9_mail 157 = .ok (.iload_n 3, 1) := by decide +kernel
theorem dX9_mail_158 : decode cX9_mail 158 = .ok (.iastore, 1) := by decide +kernel
theorem dX9_mail_159 : decode cX9_mail 159 = .ok (.aload_n 0, 1) := by decide +kernel
theorem dX9_mail_160 : decode cX9_mail 160 = .ok (.getfield 89, 3) := by decide +kernel
theorem dX9_mail_163 : decode cX9_mail 163 = .ok (.iload 6, 2) := by decide +kernel
theorem dX9_mail_165 : decode cX9_mail 165 = .ok (.iload 4, 2) := by decide +kernel
theorem dX9_mail_167 : decode cX9_mail 167 = .ok (.iastore, 1) := by decide +kernel
theorem dX9_mail_168 : decode cX9_mail 168 = .ok (.aload_n 0, 1) := by decide +kernel
theorem dX9_mail_169 : decode cX9_mail 169 = .ok (.dup, 1) := by decide +kernel
theorem dX9_mail_170 : decode cX9_mail 170 = .ok (.getfield 259, 3) := by decide +kernel
theorem dX9_mail_173 : decode cX9_mail 173 = .ok (.iconst 1, 1) := by decide +kernel
theorem dX9_mail_174 : decode cX9_mail 174 = .ok (.iadd, 1) := by decide +kernel
theorem dX9_mail_175 : decode cX9_mail 175 = .ok (.putfield 259, 3) := by decide +kernel
theorem dX9_mail_178 : decode cX9_mail 178 = .ok (.aload_n 0, 1) := by decide +kernel
theorem dX9_mail_179 : decode cX9_mail 179 = .ok (.iload 6, 2) := by decide +kernel
theorem dX9_mail_181 : decode cX9_mail 181 = .ok (.iload_n 2, 1) := by decide +kernel
theorem dX9_mail_182 : decode cX9_mail 182 = .ok (.aload_n 0, 1) := by decide +kernel
theorem dX9_mail_183 : decode cX9_mail 183 = .ok (.getfield 207, 3) := by decide +kernel
theorem dX9_mail_186 : decode cX9_mail 186 = .ok (.invokevirtual 264, 3) := by decide +kernel
theorem dX9_mail_189 : decode cX9_mail 189 = .ok (.iload 6, 2) := by decide +kernel
theorem dX9_mail_191 : decode cX9_mail 191 = .ok (.ireturn, 1) := by decide +kernel
theorem dX9_comes_0 : decode cX9_comes 0 = .ok (.aload_n 0, 1) := by decide +kernel
theorem dX9_comes_1 : decode cX9_comes 1 = .ok (.getfield 92, 3) := by decide +kernel
theorem dX9_comes_4 : decode cX9_comes 4 = .ok (.iload_n 1, 1) := by decide +kernel
theorem dX9_comes_5 : decode cX9_comes 5 = .ok (.iconst 0, 1) := by decide +kernel
theorem dX9_comes_6 : decode cX9_comes 6 = .ok (.iastore, 1) := by decide +kernel
theorem dX9_comes_7 : decode cX9_comes 7 = .ok (.aload_n 0, 1) := by decide +kernel
theorem dX9_comes_8 : decode cX9_comes 8 = .ok (.getfield 95, 3) := by decide +kernel
theorem dX9_comes_11 : decode cX9_comes 11 = .ok (.iload_n 1, 1) := by decide +kernel
theorem dX9_comes_12 : decode cX9_comes 12 = .ok (.iload_n 2, 1) := by decide +kernel
theorem dX9_comes_13 : decode cX9_comes 13 = .ok (.iastore, 1) := by decide +kernel
theorem dX9_comes_14 : decode cX9_comes 14 = .ok (.aload_n 0, 1) := by decide +kernel
theorem dX9_comes_15 : decode cX9_comes 15 = .ok (.getfield 98, 3) := by decide +kernel
theorem dX9_comes_18 : decode cX9_comes 18 = .ok (.iload_n 1, 1) := by decide +kernel
theorem dX9_comes_19 : decode cX9_comes 19 = .ok (.iload_n 3, 1) := by decide +kernel
theorem dX9_comes_20 : decode cX9_comes 20 = .ok (.iastore, 1) := by decide +kernel
theorem dX9_comes_21 : decode cX9_comes 21 = .ok (.aload_n 0, 1) := by decide +kernel
theorem dX9_comes_22 : decode cX9_comes 22 = .ok (.getfield 104, 3) := by decide +kernel
theorem dX9_comes_25 : decode cX9_comes 25 = .ok (.iload_n 1, 1) := by decide +kernel
theorem dX9_comes_26 : decode cX9_comes 26 = .ok (.iaload, 1) := by decide +kernel
theorem dX9_comes_27 : decode cX9_comes 27 = .ok (.bipush 40, 2) := by decide +kernel
theorem dX9_comes_29 : decode cX9_comes 29 = .ok (.if_icmp .ge 20, 3) := by decide +kernel
theorem dX9_comes_32 : decode cX9_comes 32 = .ok (.aload_n 0, 1) := by decide +kernel
theorem dX9_comes_33 : decode cX9_comes 33 = .ok (.getfield 107, 3) := by decide +kernel
theorem dX9_comes_36 : decode cX9_comes 36 = .ok (.bipush 40, 2) := by decide +kernel
theorem dX9_comes_38 : decode cX9_comes 38 = .ok (.iload_n 1, 1) := by decide +kernel
theorem dX9_comes_39 : decode cX9_comes 39 = .ok (.imul, 1) := by decide +kernel
theorem dX9_comes_40 : decode cX9_comes 40 = .ok (.aload_n 0, 1) := by decide +kernel
theorem dX9_comes_41 : decode cX9_comes 41 = .ok (.getfield 104, 3) := by decide +kernel
theorem dX9_comes_44 : decode cX9_comes 44 = .ok (.iload_n 1, 1) := by decide +kernel
theorem dX9_comes_45 : decode cX9_comes 45 = .ok (.iaload, 1) := by decide +kernel
theorem dX9_comes_46 : decode cX9_comes 46 = .ok (.iadd, 1) := by decide +kernel
theorem dX9_comes_47 : decode cX9_comes 47 = .ok (.iload_n 2, 1) := by decide +kernel
theorem dX9_comes_48 : decode cX9_comes 48 = .ok (.iastore, 1) := by decide +kernel
theorem dX9_comes_49 : decode cX9_comes 49 = .ok (.aload_n 0, 1) := by decide +kernel
theorem dX9_comes_50 : decode cX9_comes 50 = .ok (.getfield 104, 3) := by decide +kernel
theorem dX9_comes_53 : decode cX9_comes 53 = .ok (.iload_n 1, 1) := by decide +kernel
theorem dX9_comes_54 : decode cX9_comes 54 = .ok (.dup2, 1) := by decide +kernel
theorem dX9_comes_55 : decode cX9_comes 55 = .ok (.iaload, 1) := by decide +kernel
theorem dX9_comes_56 : decode cX9_comes 56 = .ok (.iconst 1, 1) := by decide +kernel
theorem dX9_comes_57 : decode cX9_comes 57 = .ok (.iadd, 1) := by decide +kernel
theorem dX9_comes_58 : decode cX9_comes 58 = .ok (.iastore, 1) := by decide +kernel
theorem dX9_comes_59 : decode cX9_comes 59 = .ok (.return_, 1) := by decide +kernel
theorem dX9_feed_0 : decode cX9_feed 0 = .ok (.iload_n 1, 1) := by decide +kernel
theorem dX9_feed_1 : decode cX9_feed 1 = .ok (.i2l, 1) := by decide +kernel
theorem dX9_feed_2 : decode cX9_feed 2 = .ok (.lconst 1, 1) := by decide +kernel
theorem dX9_feed_3 : decode cX9_feed 3 = .ok (.ldc2_w 268, 3) := by decide +kernel
theorem dX9_feed_6 : decode cX9_feed 6 = .ok (.invokestatic 188, 3) := by decide +kernel
theorem dX9_feed_9 : decode cX9_feed 9 = .ok (.istore 4, 2) := by decide +kernel
theorem dX9_feed_11 : decode cX9_feed 11 = .ok (.iload 4, 2) := by decide +kernel
theorem dX9_feed_13 : decode cX9_feed 13 = .ok (.ifCond .ne 18, 3) := by decide +kernel
theorem dX9_feed_16 : decode cX9_feed 16 = .ok (.aload_n 0, 1) := by decide +kernel
theorem dX9_feed_17 : decode cX9_feed 17 = .ok (.getfield 270, 3) := by decide +kernel
theorem dX9_feed_20 : decode cX9_feed 20 = .ok (.iload_n 1, 1) := by decide +kernel
theorem dX9_feed_21 : decode cX9_feed 21 = .ok (.iadd, 1) := by decide +kernel
theorem dX9_feed_22 : decode cX9_feed 22 = .ok (.bipush 60, 2) := by decide +kernel
theorem dX9_feed_24 : decode cX9_feed 24 = .ok (.if_icmp .le 7, 3) := by decide +kernel
theorem dX9_feed_27 : decode cX9_feed 27 = .ok (.bipush (-6), 2) := by decide +kernel
theorem dX9_feed_29 : decode cX9_feed 29 = .ok (.istore 4, 2) := by decide +kernel
theorem dX9_feed_31 : decode cX9_feed 31 = .ok (.iload 4, 2) := by decide +kernel
theorem dX9_feed_33 : decode cX9_feed 33 = .ok (.ifCond .eq 10, 3) := by decide +kernel
theorem dX9_feed_36 : decode cX9_feed 36 = .ok (.aload_n 0, 1) := by decide +kernel
theorem dX9_feed_37 : decode cX9_feed 37 = .ok (.iload 4, 2) := by decide +kernel
theorem dX9_feed_39 : decode cX9_feed 39 = .ok (.invokevirtual 192, 3) := by decide +kernel
theorem dX9_feed_42 : decode cX9_feed 42 = .ok (.ireturn, 1) := by decide +kernel
theorem dX9_feed_43 : decode cX9_feed 43 = .ok (.iconst 0, 1) := by decide +kernel
theorem dX9_feed_44 : decode cX9_feed 44 = .ok (.istore 5, 2) := by decide +kernel
theorem dX9_feed_46 : decode cX9_feed 46 = .ok (.iload 5, 2) := by decide +kernel
theorem dX9_feed_48 : decode cX9_feed 48 = .ok (.iload_n 1, 1) := by decide +kernel
theorem dX9_feed_49 : decode cX9_feed 49 = .ok (.if_icmp .ge 40, 3) := by decide +kernel
theorem dX9_feed_52 : decode cX9_feed 52 = .ok (.aload_n 0, 1) := by decide +kernel
theorem dX9_feed_53 : decode cX9_feed 53 = .ok (.getfield 120, 3) := by decide +kernel
theorem dX9_feed_56 : decode cX9_feed 56 = .ok (.aload_n 0, 1) := by decide +kernel
theorem dX9_feed_57 : decode cX9_feed 57 = .ok (.getfield 270, 3) := by decide +kernel
theorem dX9_feed_60 : decode cX9_feed 60 = .ok (.lload_n 2, 1) := by decide +kernel
theorem dX9_feed_61 : decode cX9_feed 61 = .ok (.bipush 8, 2) := by decide +kernel
theorem dX9_feed_63 : decode cX9_feed 63 = .ok (.iload 5, 2) := by decide +kernel
theorem dX9_feed_65 : decode cX9_feed 65 = .ok (.imul, 1) := by decide +kernel
theorem dX9_feed_66 : decode cX9_feed 66 = .ok (.lshr, 1) := by decide +kernel
theorem dX9_feed_67 : decode cX9_feed 67 = .ok (.ldc2_w 273, 3) := by decide +kernel
theorem dX9_feed_70 : decode cX9_feed 70 = .ok (.land, 1) := by decide +kernel
theorem dX9_feed_71 : decode cX9_feed 71 = .ok (.l2i, 1) := by decide +kernel
theorem dX9_feed_72 : decode cX9_feed 72 = .ok (.iastore, 1) := by decide +kernel
theorem dX9_feed_73 : decode cX9_feed 73 = .ok (.aload_n 0, 1) := by decide +kernel
theorem dX9_feed_74 : decode cX9_feed 74 = .ok (.dup, 1) := by decide +kernel
theorem dX9_feed_75 : decode cX9_feed 75 = .ok (.getfield 270, 3) := by decide +kernel
theorem dX9_feed_78 : decode cX9_feed 78 = .ok (.iconst 1, 1) := by decide +kernel
theorem dX9_feed_79 : decode cX9_feed 79 = .ok (.iadd, 1) := by decide +kernel
theorem dX9_feed_80 : decode cX9_feed 80 = .ok (.putfield 270, 3) := by decide +kernel
theorem dX9_feed_83 : decode cX9_feed 83 = .ok (.iinc 5 1, 3) := by decide +kernel
theorem dX9_feed_86 : decode cX9_feed 86 = .ok (.goto (-40), 3) := by decide +kernel
theorem dX9_feed_89 : decode cX9_feed 89 = .ok (.aload_n 0, 1) := by decide +kernel
theorem dX9_feed_90 : decode cX9_feed 90 = .ok (.getfield 270, 3) := by decide +kernel
theorem dX9_feed_93 : decode cX9_feed 93 = .ok (.ireturn, 1) := by decide +kernel
theorem dX9_sign_0 : decode cX9_sign 0 = .ok (.aload_n 0, 1) := by decide +kernel
theorem dX9_sign_1 : decode cX9_sign 1 = .ok (.getfield 275, 3) := by decide +kernel
theorem dX9_sign_4 : decode cX9_sign 4 = .ok (.aload_n 0, 1) := by decide +kernel
theorem dX9_sign_5 : decode cX9_sign 5 = .ok (.getfield 270, 3) := by decide +kernel
theorem dX9_sign_8 : decode cX9_sign 8 = .ok (.if_icmp .ge 15, 3) := by decide +kernel
theorem dX9_sign_11 : decode cX9_sign 11 = .ok (.aload_n 0, 1) := by decide +kernel
theorem dX9_sign_12 : decode cX9_sign 12 = .ok (.getfield 120, 3) := by decide +kernel
theorem dX9_sign_15 : decode cX9_sign 15 = .ok (.aload_n 0, 1) := by decide +kernel
theorem dX9_sign_16 : decode cX9_sign 16 = .ok (.getfield 275, 3) := by decide +kernel
theorem dX9_sign_19 : decode cX9_sign 19 = .ok (.iaload, 1) := by decide +kernel
theorem dX9_sign_20 : decode cX9_sign 20 = .ok (.goto 4, 3) := by decide +kernel
theorem dX9_sign_23 : decode cX9_sign 23 = .ok (.iconst (-1), 1) := by decide +kernel
theorem dX9_sign_24 : decode cX9_sign 24 = .ok (.ireturn, 1) := by decide +kernel
theorem dX9_isDigit_0 : decode cX9_isDigit 0 = .ok (.iload_n 0, 1) := by decide +kernel
theorem dX9_isDigit_1 : decode cX9_isDigit 1 = .ok (.bipush 48, 2) := by decide +kernel
theorem dX9_isDigit_3 : decode cX9_isDigit 3 = .ok (.if_icmp .lt 13, 3) := by decide +kernel
theorem dX9_isDigit_6 : decode cX9_isDigit 6 = .ok (.iload_n 0, 1) := by decide +kernel
theorem dX9_isDigit_7 : decode cX9_isDigit 7 = .ok (.bipush 57, 2) := by decide +kernel
theorem dX9_isDigit_9 : decode cX9_isDigit 9 = .ok (.if_icmp .gt 7, 3) := by decide +kernel
theorem dX9_isDigit_12 : decode cX9_isDigit 12 = .ok (.iconst 1, 1) := by decide +kernel
theorem dX9_isDigit_13 : decode cX9_isDigit 13 = .ok (.goto 4, 3) := by decide +kernel
theorem dX9_isDigit_16 : decode cX9_isDigit 16 = .ok (.iconst 0, 1) := by decide +kernel
theorem dX9_isDigit_17 : decode cX9_isDigit 17 = .ok (.ireturn, 1) := by decide +kernel
theorem dX9_isFact_0 : decode cX9_isFact 0 = .ok (.iload_n 0, 1) := by decide +kernel
theorem dX9_isFact_1 : decode cX9_isFact 1 = .ok (.bipush 107, 2) := by decide +kernel
theorem dX9_isFact_3 : decode cX9_isFact 3 = .ok (.if_icmp .eq 51, 3) := by decide +kernel
theorem dX9_isFact_6 : decode cX9_isFact 6 = .ok (.iload_n 0, 1) := by decide +kernel
theorem dX9_isFact_7 : decode cX9_isFact 7 = .ok (.bipush 119, 2) := by decide +kernel
theorem dX9_isFact_9 : decode cX9_isFact 9 = .ok (.if_icmp .eq 45, 3) := by decide +kernel
theorem dX9_isFact_12 : decode cX9_isFact 12 = .ok (.iload_n 0, 1) := by decide +kernel
theorem dX9_isFact_13 : decode cX9_isFact 13 = .ok (.bipush 97, 2) := by decide +kernel
theorem dX9_isFact_15 : decode cX9_isFact 15 = .ok (.if_icmp .eq 39, 3) := by decide +kernel
theorem dX9_isFact_18 : decode cX9_isFact 18 = .ok (.iload_n 0, 1) := by decide +kernel
theorem dX9_isFact_19 : decode cX9_isFact 19 = .ok (.bipush 104, 2) := by decide +kernel
theorem dX9_isFact_21 : decode cX9_isFact 21 = .ok (.if_icmp .eq 33, 3) := by decide +kernel
theorem dX9_isFact_24 : decode cX9_isFact 24 = .ok (.iload_n 0, 1) := by decide +kernel
theorem dX9_isFact_25 : decode cX9_isFact 25 = .ok (.bipush 115, 2) := by decide +kernel
theorem dX9_isFact_27 : decode cX9_isFact 27 = .ok (.if_icmp .eq 27, 3) := by decide +kernel
theorem dX9_isFact_30 : decode cX9_isFact 30 = .ok (.iload_n 0, 1) := by decide +kernel
theorem dX9_isFact_31 : decode cX9_isFact 31 = .ok (.bipush 117, 2) := by decide +kernel
theorem dX9_isFact_33 : decode cX9_isFact 33 = .ok (.if_icmp .eq 21, 3) := by decide +kernel
theorem dX9_isFact_36 : decode cX9_isFact 36 = .ok (.iload_n 0, 1) := by decide +kernel
theorem dX9_isFact_37 : decode cX9_isFact 37 = .ok (.bipush 111, 2) := by decide +kernel
theorem dX9_isFact_39 : decode cX9_isFact 39 = .ok (.if_icmp .eq 15, 3) := by decide +kernel
theorem dX9_isFact_42 : decode cX9_isFact 42 = .ok (.iload_n 0, 1) := by decide +kernel
theorem dX9_isFact_43 : decode cX9_isFact 43 = .ok (.bipush 98, 2) := by decide +kernel
theorem dX9_isFact_45 : decode cX9_isFact 45 = .ok (.if_icmp .eq 9, 3) := by decide +kernel
theorem dX9_isFact_48 : decode cX9_isFact 48 = .ok (.iload_n 0, 1) := by decide +kernel
theorem dX9_isFact_49 : decode cX9_isFact 49 = .ok (.bipush 99, 2) := by decide +kernel
theorem dX9_isFact_51 : decode cX9_isFact 51 = .ok (.if_icmp .ne 7, 3) := by decide +kernel
theorem dX9_isFact_54 : decode cX9_isFact 54 = .ok (.iconst 1, 1) := by decide +kernel
theorem dX9_isFact_55 : decode cX9_isFact 55 = .ok (.goto 4, 3) := by decide +kernel
theorem dX9_isFact_58 : decode cX9_isFact 58 = .ok (.iconst 0, 1) := by decide +kernel
theorem dX9_isFact_59 : decode cX9_isFact 59 = .ok (.ireturn, 1) := by decide +kernel
theorem dX9_unit_0 : decode cX9_unit 0 = .ok (.aload_n 0, 1) := by decide +kernel
theorem dX9_unit_1 : decode cX9_unit 1 = .ok (.invokevirtual 278, 3) := by decide +kernel
theorem dX9_unit_4 : decode cX9_unit 4 = .ok (.invokestatic 282, 3) := by decide +kernel
theorem dX9_unit_7 : decode cX9_unit 7 = .ok (.ifCond .eq 15, 3) := by decide +kernel
theorem dX9_unit_10 : decode cX9_unit 10 = .ok (.aload_n 0, 1) := by decide +kernel
theorem dX9_unit_11 : decode cX9_unit 11 = .ok (.dup, 1) := by decide +kernel
theorem dX9_unit_12 : decode cX9_unit 12 = .ok (.getfield 275, 3) := by decide +kernel
theorem dX9_unit_15 : decode cX9_unit 15 = .ok (.iconst 1, 1) := by decide +kernel
theorem dX9_unit_16 : decode cX9_unit 16 = .ok (.iadd, 1) := by decide +kernel
theorem dX9_unit_17 : decode cX9_unit 17 = .ok (.putfield 275, 3) := by decide +kernel
theorem dX9_unit_20 : decode cX9_unit 20 = .ok (.iconst 1, 1) := by decide +kernel
theorem dX9_unit_21 : decode cX9_unit 21 = .ok (.ireturn, 1) := by decide +kernel
theorem dX9_unit_22 : decode cX9_unit 22 = .ok (.aload_n 0, 1) := by decide +kernel
theorem dX9_unit_23 : decode cX9_unit 23 = .ok (.invokevirtual 278, 3) := by decide +kernel
theorem dX9_unit_26 : decode cX9_unit 26 = .ok (.invokestatic 285, 3) := by decide +kernel
theorem dX9_unit_29 : decode cX9_unit 29 = .ok (.ifCond .ne 5, 3) := by decide +kernel
theorem dX9_unit_32 : decode cX9_unit 32 = .ok (.iconst 0, 1) := by decide +kernel
theorem dX9_unit_33 : decode cX9_unit 33 = .ok (.ireturn, 1) := by decide +kernel
theorem dX9_unit_34 : decode cX9_unit 34 = .ok (.iconst 0, 1) := by decide +kernel
theorem dX9_unit_35 : decode cX9_unit 35 = .ok (.istore_n 1, 1) := by decide +kernel
theorem dX9_unit_36 : decode cX9_unit 36 = .ok (.iload_n 1, 1) := by decide +kernel
theorem dX9_unit_37 : decode cX9_unit 37 = .ok (.iconst 4, 1) := by decide +kernel
theorem dX9_unit_38 : decode cX9_unit 38 = .ok (.if_icmp .ge 29, 3) := by decide +kernel
theorem dX9_unit_41 : decode cX9_unit 41 = .ok (.aload_n 0, 1) := by decide +kernel
theorem dX9_unit_42 : decode cX9_unit 42 = .ok (.invokevirtual 278, 3) := by decide +kernel
theorem dX9_unit_45 : decode cX9_unit 45 = .ok (.invokestatic 285, 3) := by decide +kernel
theorem dX9_unit_48 : decode cX9_unit 48 = .ok (.ifCond .eq 19, 3) := by decide +kernel
theorem dX9_unit_51 : decode cX9_unit 51 = .ok (.aload_n 0, 1) := by decide +kernel
theorem dX9_unit_52 : decode cX9_unit 52 = .ok (.dup, 1) := by decide +kernel
theorem dX9_unit_53 : decode cX9_unit 53 = .ok (.getfield 275, 3) := by decide +kernel
theorem dX9_unit_56 : decode cX9_unit 56 = .ok (.iconst 1, 1) := by decide +kernel
theorem dX9_unit_57 : decode cX9_unit 57 = .ok (.iadd, 1) := by decide +kernel
theorem dX9_unit_58 : decode cX9_unit 58 = .ok (.putfield 275, 3) := by decide +kernel
theorem dX9_unit_61 : decode cX9_unit 61 = .ok (.iinc 1 1, 3) := by decide +kernel
theorem dX9_unit_64 : decode cX9_unit 64 = .ok (.goto (-28), 3) := by decide +kernel
theorem dX9_unit_67 : decode cX9_unit 67 = .ok (.iconst 1, 1) := by decide +kernel
theorem dX9_unit_68 : decode cX9_unit 68 = .ok (.ireturn, 1) := by decide +kernel
theorem dX9_closes_0 : decode cX9_closes 0 = .ok (.aload_n 0, 1) := by decide +kernel
theorem dX9_closes_1 : decode cX9_closes 1 = .ok (.getfield 288, 3) := by decide +kernel
theorem dX9_closes_4 : decode cX9_closes 4 = .ok (.ifCond .le 31, 3) := by decide +kernel
theorem dX9_closes_7 : decode cX9_closes 7 = .ok (.aload_n 0, 1) := by decide +kernel
theorem dX9_closes_8 : decode cX9_closes 8 = .ok (.getfield 135, 3) := by decide +kernel
theorem dX9_closes_11 : decode cX9_closes 11 = .ok (.aload_n 0, 1) := by decide +kernel
theorem dX9_closes_12 : decode cX9_closes 12 = .ok (.getfield 288, 3) := by decide +kernel
theorem dX9_closes_15 : decode cX9_closes 15 = .ok (.iconst 1, 1) := by decide +kernel
theorem dX9_closes_16 : decode cX9_closes 16 = .ok (.isub, 1) := by decide +kernel
theorem dX9_closes_17 : decode cX9_closes 17 = .ok (.iaload, 1) := by decide +kernel
theorem dX9_closes_18 : decode cX9_closes 18 = .ok (.iconst 1, 1) := by decide +kernel
theorem dX9_closes_19 : decode cX9_closes 19 = .ok (.if_icmp .ne 16, 3) := by decide +kernel
theorem dX9_closes_22 : decode cX9_closes 22 = .ok (.aload_n 0, 1) := by decide +kernel
theorem dX9_closes_23 : decode cX9_closes 23 = .ok (.dup, 1) := by decide +kernel
theorem dX9_closes_24 : decode cX9_closes 24 = .ok (.getfield 288, 3) := by decide +kernel
theorem dX9_closes_27 : decode cX9_closes 27 = .ok (.iconst 1, 1) := by decide +kernel
theorem dX9_closes_28 : decode cX9_closes 28 = .ok (.isub, 1) := by decide +kernel
theorem dX9_closes_29 : decode cX9_closes 29 = .ok (.putfield 288, 3) := by decide +kernel
theorem dX9_closes_32 : decode cX9_closes 32 = .ok (.goto (-32), 3) := by decide +kernel
theorem dX9_closes_35 : decode cX9_closes 35 = .ok (.return_, 1) := by decide +kernel
theorem dX9_parses_0 : decode cX9_parses 0 = .ok (.aload_n 0, 1) := by decide +kernel
theorem dX9_parses_1 : decode cX9_parses 1 = .ok (.iconst 0, 1) := by decide +kernel
theorem dX9_parses_2 : decode cX9_parses 2 = .ok (.putfield 275, 3) := by decide +kernel
theorem dX9_parses_5 : decode cX9_parses 5 = .ok (.aload_n 0, 1) := by decide +kernel
theorem dX9_parses_6 : decode cX9_parses 6 = .ok (.iconst 0, 1) := by decide +kernel
theorem dX9_parses_7 : decode cX9_parses 7 = .ok (.putfield 288, 3) := by decide +kernel
theorem dX9_parses_10 : decode cX9_parses 10 = .ok (.aload_n 0, 1) := by decide +kernel
theorem dX9_parses_11 : decode cX9_parses 11 = .ok (.invokevirtual 278, 3) := by decide +kernel
theorem dX9_parses_14 : decode cX9_parses 14 = .ok (.bipush 33, 2) := by decide +kernel
theorem dX9_parses_16 : decode cX9_parses 16 = .ok (.if_icmp .eq 12, 3) := by decide +kernel
theorem dX9_parses_19 : decode cX9_parses 19 = .ok (.aload_n 0, 1) := by decide +kernel
theorem dX9_parses_20 : decode cX9_parses 20 = .ok (.invokevirtual 278, 3) := by decide +kernel
theorem dX9_parses_23 : decode cX9_parses 23 = .ok (.bipush 40, 2) := by decide +kernel
theorem dX9_parses_25 : decode cX9_parses 25 = .ok (.if_icmp .ne 59, 3) := by decide +kernel
theorem dX9_parses_28 : decode cX9_parses 28 = .ok (.aload_n 0, 1) := by decide +kernel
theorem dX9_parses_29 : decode cX9_parses 29 = .ok (.getfield 288, 3) := by decide +kernel
theorem dX9_parses_32 : decode cX9_parses 32 = .ok (.iconst 5, 1) := by decide +kernel
theorem dX9_parses_33 : decode cX9_parses 33 = .ok (.if_icmp .ne 5, 3) := by decide +kernel
theorem dX9_parses_36 : decode cX9_parses 36 = .ok (.iconst 0, 1) := by decide +kernel
theorem dX9_parses_37 : decode cX9_parses 37 = .ok (.ireturn, 1) := by decide +kernel
theorem dX9_parses_38 : decode cX9_parses 38 = .ok (.aload_n 0, 1) := by decide +kernel
theorem dX9_parses_39 : decode cX9_parses 39 = .ok (.getfield 135, 3) := by decide +kernel
theorem dX9_parses_42 : decode cX9_parses 42 = .ok (.aload_n 0, 1) := by decide +kernel
theorem dX9_parses_43 : decode cX9_parses 43 = .ok (.getfield 288, 3) := by decide +kernel
theorem dX9_parses_46 : decode cX9_parses 46 = .ok (.aload_n 0, 1) := by decide +kernel
theorem dX9_parses_47 : decode cX9_parses 47 = .ok (.invokevirtual 278, 3) := by decide +kernel
theorem dX9_parses_50 : decode cX9_parses 50 = .ok (.bipush 33, 2) := by decide +kernel
theorem dX9_parses_52 : decode cX9_parses 52 = .ok (.if_icmp .ne 7, 3) := by decide +kernel
theorem dX9_parses_55 : decode cX9_parses 55 = .ok (.iconst 1, 1) := by decide +kernel
theorem dX9_parses_56 : decode cX9_parses 56 = .ok (.goto 4, 3) := by decide +kernel
theorem dX9_parses_59 : decode cX9_parses 59 = .ok (.iconst 2, 1) := by decide +kernel
theorem dX9_parses_60 : decode cX9_parses 60 = .ok (.iastore, 1) := by decide +kernel
theorem dX9_parses_61 : decode cX9_parses 61 = .ok (.aload_n 0, 1) := by decide +kernel
theorem dX9_parses_62 : decode cX9_parses 62 = .ok (.dup, 1) := by decide +kernel
theorem dX9_parses_63 : decode cX9_parses 63 = .ok (.getfield 288, 3) := by decide +kernel
theorem dX9_parses_66 : decode cX9_parses 66 = .ok (.iconst 1, 1) := by decide +kernel
theorem dX9_parses_67 : decode cX9_parses 67 = .ok (.iadd, 1) := by decide +kernel
theorem dX9_parses_68 : decode cX9_parses 68 = .ok (.putfield 288, 3) := by decide +kernel
theorem dX9_parses_71 : decode cX9_parses 71 = .ok (.aload_n 0, 1) := by decide +kernel
theorem dX9_parses_72 : decode cX9_parses 72 = .ok (.dup, 1) := by decide +kernel
theorem dX9_parses_73 : decode cX9_parses 73 = .ok (.getfield 275, 3) := by decide +kernel
theorem dX9_parses_76 : decode cX9_parses 76 = .ok (.iconst 1, 1) := by decide +kernel
theorem dX9_parses_77 : decode cX9_parses 77 = .ok (.iadd, 1) := by decide +kernel
theorem dX9_parses_78 : decode cX9_parses 78 = .ok (.putfield 275, 3) := by decide +kernel
theorem dX9_parses_81 : decode cX9_parses 81 = .ok (.goto (-71), 3) := by decide +kernel
theorem dX9_parses_84 : decode cX9_parses 84 = .ok (.aload_n 0, 1) := by decide +kernel
theorem dX9_parses_85 : decode cX9_parses 85 = .ok (.invokevirtual 291, 3) := by decide +kernel
theorem dX9_parses_88 : decode cX9_parses 88 = .ok (.ifCond .ne 5, 3) := by decide +kernel
theorem dX9_parses_91 : decode cX9_parses 91 = .ok (.iconst 0, 1) := by decide +kernel
theorem dX9_parses_92 : decode cX9_parses 92 = .ok (.ireturn, 1) := by decide +kernel
theorem dX9_parses_93 : decode cX9_parses 93 = .ok (.aload_n 0, 1) := by decide +kernel
theorem dX9_parses_94 : decode cX9_parses 94 = .ok (.invokevirtual 278, 3) := by decide +kernel
theorem dX9_parses_97 : decode cX9_parses 97 = .ok (.bipush 60, 2) := by decide +kernel
theorem dX9_parses_99 : decode cX9_parses 99 = .ok (.if_icmp .eq 23, 3) := by decide +kernel
theorem dX9_parses_102 : decode cX9_parses 102 = .ok (.aload_n 0, 1) := by decide +kernel
theorem dX9_parses_103 : decode cX9_parses 103 = .ok (.invokevirtual 278, 3) := by decide +kernel
theorem dX9_parses_106 : decode cX9_parses 106 = .ok (.bipush 61, 2) := by decide +kernel
theorem dX9_parses_108 : decode cX9_parses 108 = .ok (.if_icmp .eq 14, 3) := by decide +kernel
theorem dX9_parses_111 : decode cX9_parses 111 = .ok (.aload_n 0, 1) := by decide +kernel
theorem dX9_parses_112 : decode cX9_parses 112 = .ok (.invokevirtual 278, 3) := by decide +kernel
theorem dX9_parses_115 : decode cX9_parses 115 = .ok (.bipush 62, 2) := by decide +kernel
theorem dX9_parses_117 : decode cX9_parses 117 = .ok (.if_icmp .eq 5, 3) := by decide +kernel
theorem dX9_parses_120 : decode cX9_parses 120 = .ok (.iconst 0, 1) := by decide +kernel
theorem dX9_parses_121 : decode cX9_parses 121 = .ok (.ireturn, 1) := by decide +kernel
theorem dX9_parses_122 : decode cX9_parses 122 = .ok (.aload_n 0, 1) := by decide +kernel
theorem dX9_parses_123 : decode cX9_parses 123 = .ok (.dup, 1) := by decide +kernel
theorem dX9_parses_124 : decode cX9_parses 124 = .ok (.getfield 275, 3) := by decide +kernel
theorem dX9_parses_127 : decode cX9_parses 127 = .ok (.iconst 1, 1) := by decide +kernel
theorem dX9_parses_128 : decode cX9_parses 128 = .ok (.iadd, 1) := by decide +kernel
theorem dX9_parses_129 : decode cX9_parses 129 = .ok (.putfield 275, 3) := by decide +kernel
theorem dX9_parses_132 : decode cX9_parses 132 = .ok (.aload_n 0, 1) := by decide +kernel
theorem dX9_parses_133 : decode cX9_parses 133 = .ok (.invokevirtual 291, 3) := by decide +kernel
theorem dX9_parses_136 : decode cX9_parses 136 = .ok (.ifCond .ne 5, 3) := by decide +kernel
theorem dX9_parses_139 : decode cX9_parses 139 = .ok (.iconst 0, 1) := by decide +kernel
theorem dX9_parses_140 : decode cX9_parses 140 = .ok (.ireturn, 1) := by decide +kernel
theorem dX9_parses_141 : decode cX9_parses 141 = .ok (.aload_n 0, 1) := by decide +kernel
theorem dX9_parses_142 : decode cX9_parses 142 = .ok (.invokevirtual 295, 3) := by decide +kernel
theorem dX9_parses_145 : decode cX9_parses 145 = .ok (.aload_n 0, 1) := by decide +kernel
theorem dX9_parses_146 : decode cX9_parses 146 = .ok (.invokevirtual 278, 3) := by decide +kernel
theorem dX9_parses_149 : decode cX9_parses 149 = .ok (.bipush 41, 2) := by decide +kernel
theorem dX9_parses_151 : decode cX9_parses 151 = .ok (.if_icmp .ne 37, 3) := by decide +kernel
theorem dX9_parses_154 : decode cX9_parses 154 = .ok (.aload_n 0, 1) := by decide +kernel
theorem dX9_parses_155 : decode cX9_parses 155 = .ok (.getfield 288, 3) := by decide +kernel
theorem dX9_parses_158 : decode cX9_parses 158 = .ok (.ifCond .le 30, 3) := by decide +kernel
theorem dX9_parses_161 : decode cX9_parses 161 = .ok (.aload_n 0, 1) := by decide +kernel
theorem dX9_parses_162 : decode cX9_parses 162 = .ok (.dup, 1) := by decide +kernel
theorem dX9_parses_163 : decode cX9_parses 163 = .ok (.getfield 275, 3) := by decide +kernel
theorem dX9_parses_166 : decode cX9_parses 166 = .ok (.iconst 1, 1) := by decide +kernel
theorem dX9_parses_167 : decode cX9_parses 167 = .ok (.iadd, 1) := by decide +kernel
theorem dX9_parses_168 : decode cX9_parses 168 = .ok (.putfield 275, 3) := by decide +kernel
theorem dX9_parses_171 : decode cX9_parses 171 = .ok (.aload_n 0, 1) := by decide +kernel
theorem dX9_parses_172 : decode cX9_parses 172 = .ok (.dup, 1) := by decide +kernel
theorem dX9_parses_173 : decode cX9_parses 173 = .ok (.getfield 288, 3) := by decide +kernel
theorem dX9_parses_176 : decode cX9_parses 176 = .ok (.iconst 1, 1) := by decide +kernel
