theorem dX4_give_20 : decode cX4_give 20 = .ok (.aload_n 1, 1) := by decide +kernel
theorem dX4_give_21 : decode cX4_give 21 = .ok (.getfield 143, 3) := by decide +kernel
theorem dX4_give_24 : decode cX4_give 24 = .ok (.iload_n 2, 1) := by decide +kernel
theorem dX4_give_25 : decode cX4_give 25 = .ok (.iload 4, 2) := by decide +kernel
theorem dX4_give_27 : decode cX4_give 27 = .ok (.ifCond .eq 30, 3) := by decide +kernel
theorem dX4_give_30 : decode cX4_give 30 = .ok (.iload_n 3, 1) := by decide +kernel
theorem dX4_give_31 : decode cX4_give 31 = .ok (.aload_n 0, 1) := by decide +kernel
theorem dX4_give_32 : decode cX4_give 32 = .ok (.getfield 35, 3) := by decide +kernel
theorem dX4_give_35 : decode cX4_give 35 = .ok (.getfield 146, 3) := by decide +kernel
theorem dX4_give_38 : decode cX4_give 38 = .ok (.iload_n 2, 1) := by decide +kernel
theorem dX4_give_39 : decode cX4_give 39 = .ok (.iaload, 1) := by decide +kernel
theorem dX4_give_40 : decode cX4_give 40 = .ok (.isub, 1) := by decide +kernel
theorem dX4_give_41 : decode cX4_give 41 = .ok (.aload_n 0, 1) := by decide +kernel
theorem dX4_give_42 : decode cX4_give 42 = .ok (.getfield 35, 3) := by decide +kernel
theorem dX4_give_45 : decode cX4_give 45 = .ok (.getfield 149, 3) := by decide +kernel
theorem dX4_give_48 : decode cX4_give 48 = .ok (.iload_n 2, 1) := by decide +kernel
theorem dX4_give_49 : decode cX4_give 49 = .ok (.iaload, 1) := by decide +kernel
theorem dX4_give_50 : decode cX4_give 50 = .ok (.if_icmp .le 7, 3) := by decide +kernel
theorem dX4_give_53 : decode cX4_give 53 = .ok (.iconst 1, 1) := by decide +kernel
theorem dX4_give_54 : decode cX4_give 54 = .ok (.goto 4, 3) := by decide +kernel
theorem dX4_give_57 : decode cX4_give 57 = .ok (.iconst 0, 1) := by decide +kernel
theorem dX4_give_58 : decode cX4_give 58 = .ok (.bastore, 1) := by decide +kernel
theorem dX4_give_59 : decode cX4_give 59 = .ok (.aload_n 1, 1) := by decide +kernel
theorem dX4_give_60 : decode cX4_give 60 = .ok (.iload_n 2, 1) := by decide +kernel
theorem dX4_give_61 : decode cX4_give 61 = .ok (.iconst 2, 1) := by decide +kernel
theorem dX4_give_62 : decode cX4_give 62 = .ok (.iload_n 3, 1) := by decide +kernel
theorem dX4_give_63 : decode cX4_give 63 = .ok (.invokevirtual 105, 3) := by decide +kernel
theorem dX4_give_66 : decode cX4_give 66 = .ok (.return_, 1) := by decide +kernel
theorem dX4_sendOn_0 : decode cX4_sendOn 0 = .ok (.aload_n 1, 1) := by decide +kernel
theorem dX4_sendOn_1 : decode cX4_sendOn 1 = .ok (.getfield 82, 3) := by decide +kernel
theorem dX4_sendOn_4 : decode cX4_sendOn 4 = .ok (.iload_n 2, 1) := by decide +kernel
theorem dX4_sendOn_5 : decode cX4_sendOn 5 = .ok (.iaload, 1) := by decide +kernel
theorem dX4_sendOn_6 : decode cX4_sendOn 6 = .ok (.istore 5, 2) := by decide +kernel
theorem dX4_sendOn_8 : decode cX4_sendOn 8 = .ok (.aload_n 0, 1) := by decide +kernel
theorem dX4_sendOn_9 : decode cX4_sendOn 9 = .ok (.getfield 12, 3) := by decide +kernel
theorem dX4_sendOn_12 : decode cX4_sendOn 12 = .ok (.iload 5, 2) := by decide +kernel
theorem dX4_sendOn_14 : decode cX4_sendOn 14 = .ok (.iload_n 3, 1) := by decide +kernel
theorem dX4_sendOn_15 : decode cX4_sendOn 15 = .ok (.invokevirtual 152, 3) := by decide +kernel
theorem dX4_sendOn_18 : decode cX4_sendOn 18 = .ok (.istore 6, 2) := by decide +kernel
theorem dX4_sendOn_20 : decode cX4_sendOn 20 = .ok (.aload_n 0, 1) := by decide +kernel
theorem dX4_sendOn_21 : decode cX4_sendOn 21 = .ok (.getfield 12, 3) := by decide +kernel
theorem dX4_sendOn_24 : decode cX4_sendOn 24 = .ok (.iload 6, 2) := by decide +kernel
theorem dX4_sendOn_26 : decode cX4_sendOn 26 = .ok (.invokevirtual 155, 3) := by decide +kernel
theorem dX4_sendOn_29 : decode cX4_sendOn 29 = .ok (.ifCond .eq 46, 3) := by decide +kernel
theorem dX4_sendOn_32 : decode cX4_sendOn 32 = .ok (.aload_n 0, 1) := by decide +kernel
theorem dX4_sendOn_33 : decode cX4_sendOn 33 = .ok (.getfield 12, 3) := by decide +kernel
theorem dX4_sendOn_36 : decode cX4_sendOn 36 = .ok (.iload 6, 2) := by decide +kernel
theorem dX4_sendOn_38 : decode cX4_sendOn 38 = .ok (.iload 4, 2) := by decide +kernel
theorem dX4_sendOn_40 : decode cX4_sendOn 40 = .ok (.invokevirtual 159, 3) := by decide +kernel
theorem dX4_sendOn_43 : decode cX4_sendOn 43 = .ok (.ifCond .eq 32, 3) := by decide +kernel
theorem dX4_sendOn_46 : decode cX4_sendOn 46 = .ok (.aload_n 1, 1) := by decide +kernel
theorem dX4_sendOn_47 : decode cX4_sendOn 47 = .ok (.iload_n 2, 1) := by decide +kernel
theorem dX4_sendOn_48 : decode cX4_sendOn 48 = .ok (.aload_n 0, 1) := by decide +kernel
theorem dX4_sendOn_49 : decode cX4_sendOn 49 = .ok (.getfield 12, 3) := by decide +kernel
theorem dX4_sendOn_52 : decode cX4_sendOn 52 = .ok (.iload 6, 2) := by decide +kernel
theorem dX4_sendOn_54 : decode cX4_sendOn 54 = .ok (.iload 5, 2) := by decide +kernel
theorem dX4_sendOn_56 : decode cX4_sendOn 56 = .ok (.invokevirtual 163, 3) := by decide +kernel
theorem dX4_sendOn_59 : decode cX4_sendOn 59 = .ok (.iload 4, 2) := by decide +kernel
theorem dX4_sendOn_61 : decode cX4_sendOn 61 = .ok (.aload_n 0, 1) := by decide +kernel
theorem dX4_sendOn_62 : decode cX4_sendOn 62 = .ok (.getfield 12, 3) := by decide +kernel
theorem dX4_sendOn_65 : decode cX4_sendOn 65 = .ok (.getfield 166, 3) := by decide +kernel
theorem dX4_sendOn_68 : decode cX4_sendOn 68 = .ok (.iload 6, 2) := by decide +kernel
theorem dX4_sendOn_70 : decode cX4_sendOn 70 = .ok (.iaload, 1) := by decide +kernel
theorem dX4_sendOn_71 : decode cX4_sendOn 71 = .ok (.iadd, 1) := by decide +kernel
theorem dX4_sendOn_72 : decode cX4_sendOn 72 = .ok (.invokevirtual 168, 3) := by decide +kernel
theorem dX4_sendOn_75 : decode cX4_sendOn 75 = .ok (.return_, 1) := by decide +kernel
theorem dX4_goalOf_0 : decode cX4_goalOf 0 = .ok (.aload_n 1, 1) := by decide +kernel
theorem dX4_goalOf_1 : decode cX4_goalOf 1 = .ok (.getfield 115, 3) := by decide +kernel
theorem dX4_goalOf_4 : decode cX4_goalOf 4 = .ok (.iload_n 2, 1) := by decide +kernel
theorem dX4_goalOf_5 : decode cX4_goalOf 5 = .ok (.baload, 1) := by decide +kernel
theorem dX4_goalOf_6 : decode cX4_goalOf 6 = .ok (.ifCond .eq 13, 3) := by decide +kernel
theorem dX4_goalOf_9 : decode cX4_goalOf 9 = .ok (.aload_n 0, 1) := by decide +kernel
theorem dX4_goalOf_10 : decode cX4_goalOf 10 = .ok (.getfield 35, 3) := by decide +kernel
theorem dX4_goalOf_13 : decode cX4_goalOf 13 = .ok (.getfield 171, 3) := by decide +kernel
theorem dX4_goalOf_16 : decode cX4_goalOf 16 = .ok (.iload_n 2, 1) := by decide +kernel
theorem dX4_goalOf_17 : decode cX4_goalOf 17 = .ok (.iaload, 1) := by decide +kernel
theorem dX4_goalOf_18 : decode cX4_goalOf 18 = .ok (.ireturn, 1) := by decide +kernel
theorem dX4_goalOf_19 : decode cX4_goalOf 19 = .ok (.aload_n 0, 1) := by decide +kernel
theorem dX4_goalOf_20 : decode cX4_goalOf 20 = .ok (.getfield 35, 3) := by decide +kernel
theorem dX4_goalOf_23 : decode cX4_goalOf 23 = .ok (.getfield 126, 3) := by decide +kernel
theorem dX4_goalOf_26 : decode cX4_goalOf 26 = .ok (.iload_n 2, 1) := by decide +kernel
theorem dX4_goalOf_27 : decode cX4_goalOf 27 = .ok (.iaload, 1) := by decide +kernel
theorem dX4_goalOf_28 : decode cX4_goalOf 28 = .ok (.istore 4, 2) := by decide +kernel
theorem dX4_goalOf_30 : decode cX4_goalOf 30 = .ok (.aload_n 0, 1) := by decide +kernel
theorem dX4_goalOf_31 : decode cX4_goalOf 31 = .ok (.getfield 12, 3) := by decide +kernel
theorem dX4_goalOf_34 : decode cX4_goalOf 34 = .ok (.aload_n 1, 1) := by decide +kernel
theorem dX4_goalOf_35 : decode cX4_goalOf 35 = .ok (.getfield 82, 3) := by decide +kernel
theorem dX4_goalOf_38 : decode cX4_goalOf 38 = .ok (.iload_n 2, 1) := by decide +kernel
theorem dX4_goalOf_39 : decode cX4_goalOf 39 = .ok (.iaload, 1) := by decide +kernel
theorem dX4_goalOf_40 : decode cX4_goalOf 40 = .ok (.invokevirtual 174, 3) := by decide +kernel
theorem dX4_goalOf_43 : decode cX4_goalOf 43 = .ok (.istore 5, 2) := by decide +kernel
theorem dX4_goalOf_45 : decode cX4_goalOf 45 = .ok (.aload_n 0, 1) := by decide +kernel
theorem dX4_goalOf_46 : decode cX4_goalOf 46 = .ok (.getfield 21, 3) := by decide +kernel
theorem dX4_goalOf_49 : decode cX4_goalOf 49 = .ok (.iload 4, 2) := by decide +kernel
theorem dX4_goalOf_51 : decode cX4_goalOf 51 = .ok (.iload_n 3, 1) := by decide +kernel
theorem dX4_goalOf_52 : decode cX4_goalOf 52 = .ok (.iload 5, 2) := by decide +kernel
theorem dX4_goalOf_54 : decode cX4_goalOf 54 = .ok (.invokevirtual 178, 3) := by decide +kernel
theorem dX4_goalOf_57 : decode cX4_goalOf 57 = .ok (.istore 6, 2) := by decide +kernel
theorem dX4_goalOf_59 : decode cX4_goalOf 59 = .ok (.iload 6, 2) := by decide +kernel
theorem dX4_goalOf_61 : decode cX4_goalOf 61 = .ok (.ifCond .lt 28, 3) := by decide +kernel
theorem dX4_goalOf_64 : decode cX4_goalOf 64 = .ok (.aload_n 0, 1) := by decide +kernel
theorem dX4_goalOf_65 : decode cX4_goalOf 65 = .ok (.getfield 21, 3) := by decide +kernel
theorem dX4_goalOf_68 : decode cX4_goalOf 68 = .ok (.getfield 182, 3) := by decide +kernel
theorem dX4_goalOf_71 : decode cX4_goalOf 71 = .ok (.iload 6, 2) := by decide +kernel
theorem dX4_goalOf_73 : decode cX4_goalOf 73 = .ok (.iaload, 1) := by decide +kernel
theorem dX4_goalOf_74 : decode cX4_goalOf 74 = .ok (.iconst 1, 1) := by decide +kernel
theorem dX4_goalOf_75 : decode cX4_goalOf 75 = .ok (.if_icmp .ne 14, 3) := by decide +kernel
theorem dX4_goalOf_78 : decode cX4_goalOf 78 = .ok (.aload_n 0, 1) := by decide +kernel
theorem dX4_goalOf_79 : decode cX4_goalOf 79 = .ok (.getfield 21, 3) := by decide +kernel
theorem dX4_goalOf_82 : decode cX4_goalOf 82 = .ok (.getfield 185, 3) := by decide +kernel
theorem dX4_goalOf_85 : decode cX4_goalOf 85 = .ok (.iload 6, 2) := by decide +kernel
theorem dX4_goalOf_87 : decode cX4_goalOf 87 = .ok (.iaload, 1) := by decide +kernel
theorem dX4_goalOf_88 : decode cX4_goalOf 88 = .ok (.ireturn, 1) := by decide +kernel
theorem dX4_goalOf_89 : decode cX4_goalOf 89 = .ok (.aload_n 0, 1) := by decide +kernel
theorem dX4_goalOf_90 : decode cX4_goalOf 90 = .ok (.getfield 21, 3) := by decide +kernel
theorem dX4_goalOf_93 : decode cX4_goalOf 93 = .ok (.aload_n 0, 1) := by decide +kernel
theorem dX4_goalOf_94 : decode cX4_goalOf 94 = .ok (.getfield 21, 3) := by decide +kernel
theorem dX4_goalOf_97 : decode cX4_goalOf 97 = .ok (.getfield 188, 3) := by decide +kernel
theorem dX4_goalOf_100 : decode cX4_goalOf 100 = .ok (.iload 4, 2) := by decide +kernel
theorem dX4_goalOf_102 : decode cX4_goalOf 102 = .ok (.iaload, 1) := by decide +kernel
theorem dX4_goalOf_103 : decode cX4_goalOf 103 = .ok (.iload_n 3, 1) := by decide +kernel
theorem dX4_goalOf_104 : decode cX4_goalOf 104 = .ok (.iload 5, 2) := by decide +kernel
theorem dX4_goalOf_106 : decode cX4_goalOf 106 = .ok (.invokevirtual 191, 3) := by decide +kernel
theorem dX4_goalOf_109 : decode cX4_goalOf 109 = .ok (.ireturn, 1) := by decide +kernel
theorem dX4_takeFacts_0 : decode cX4_takeFacts 0 = .ok (.aload_n 1, 1) := by decide +kernel
theorem dX4_takeFacts_1 : decode cX4_takeFacts 1 = .ok (.getfield 82, 3) := by decide +kernel
theorem dX4_takeFacts_4 : decode cX4_takeFacts 4 = .ok (.iload_n 2, 1) := by decide +kernel
theorem dX4_takeFacts_5 : decode cX4_takeFacts 5 = .ok (.iaload, 1) := by decide +kernel
theorem dX4_takeFacts_6 : decode cX4_takeFacts 6 = .ok (.istore 4, 2) := by decide +kernel
theorem dX4_takeFacts_8 : decode cX4_takeFacts 8 = .ok (.aload_n 0, 1) := by decide +kernel
theorem dX4_takeFacts_9 : decode cX4_takeFacts 9 = .ok (.getfield 35, 3) := by decide +kernel
theorem dX4_takeFacts_12 : decode cX4_takeFacts 12 = .ok (.getfield 126, 3) := by decide +kernel
theorem dX4_takeFacts_15 : decode cX4_takeFacts 15 = .ok (.iload_n 2, 1) := by decide +kernel
theorem dX4_takeFacts_16 : decode cX4_takeFacts 16 = .ok (.iaload, 1) := by decide +kernel
theorem dX4_takeFacts_17 : decode cX4_takeFacts 17 = .ok (.istore 5, 2) := by decide +kernel
theorem dX4_takeFacts_19 : decode cX4_takeFacts 19 = .ok (.aload_n 0, 1) := by decide +kernel
theorem dX4_takeFacts_20 : decode cX4_takeFacts 20 = .ok (.getfield 56, 3) := by decide +kernel
theorem dX4_takeFacts_23 : decode cX4_takeFacts 23 = .ok (.iconst 0, 1) := by decide +kernel
theorem dX4_takeFacts_24 : decode cX4_takeFacts 24 = .ok (.aload_n 0, 1) := by decide +kernel
theorem dX4_takeFacts_25 : decode cX4_takeFacts 25 = .ok (.getfield 35, 3) := by decide +kernel
theorem dX4_takeFacts_28 : decode cX4_takeFacts 28 = .ok (.getfield 140, 3) := by decide +kernel
theorem dX4_takeFacts_31 : decode cX4_takeFacts 31 = .ok (.iload_n 2, 1) := by decide +kernel
theorem dX4_takeFacts_32 : decode cX4_takeFacts 32 = .ok (.iaload, 1) := by decide +kernel
theorem dX4_takeFacts_33 : decode cX4_takeFacts 33 = .ok (.iastore, 1) := by decide +kernel
theorem dX4_takeFacts_34 : decode cX4_takeFacts 34 = .ok (.aload_n 0, 1) := by decide +kernel
theorem dX4_takeFacts_35 : decode cX4_takeFacts 35 = .ok (.getfield 56, 3) := by decide +kernel
theorem dX4_takeFacts_38 : decode cX4_takeFacts 38 = .ok (.iconst 1, 1) := by decide +kernel
theorem dX4_takeFacts_39 : decode cX4_takeFacts 39 = .ok (.aload_n 0, 1) := by decide +kernel
theorem dX4_takeFacts_40 : decode cX4_takeFacts 40 = .ok (.getfield 35, 3) := by decide +kernel
theorem dX4_takeFacts_43 : decode cX4_takeFacts 43 = .ok (.getfield 149, 3) := by decide +kernel
theorem dX4_takeFacts_46 : decode cX4_takeFacts 46 = .ok (.iload_n 2, 1) := by decide +kernel
theorem dX4_takeFacts_47 : decode cX4_takeFacts 47 = .ok (.iaload, 1) := by decide +kernel
theorem dX4_takeFacts_48 : decode cX4_takeFacts 48 = .ok (.iastore, 1) := by decide +kernel
theorem dX4_takeFacts_49 : decode cX4_takeFacts 49 = .ok (.aload_n 0, 1) := by decide +kernel
theorem dX4_takeFacts_50 : decode cX4_takeFacts 50 = .ok (.getfield 56, 3) := by decide +kernel
theorem dX4_takeFacts_53 : decode cX4_takeFacts 53 = .ok (.iconst 2, 1) := by decide +kernel
theorem dX4_takeFacts_54 : decode cX4_takeFacts 54 = .ok (.iload_n 3, 1) := by decide +kernel
theorem dX4_takeFacts_55 : decode cX4_takeFacts 55 = .ok (.aload_n 0, 1) := by decide +kernel
theorem dX4_takeFacts_56 : decode cX4_takeFacts 56 = .ok (.getfield 35, 3) := by decide +kernel
theorem dX4_takeFacts_59 : decode cX4_takeFacts 59 = .ok (.getfield 146, 3) := by decide +kernel
theorem dX4_takeFacts_62 : decode cX4_takeFacts 62 = .ok (.iload_n 2, 1) := by decide +kernel
theorem dX4_takeFacts_63 : decode cX4_takeFacts 63 = .ok (.iaload, 1) := by decide +kernel
theorem dX4_takeFacts_64 : decode cX4_takeFacts 64 = .ok (.isub, 1) := by decide +kernel
theorem dX4_takeFacts_65 : decode cX4_takeFacts 65 = .ok (.iastore, 1) := by decide +kernel
theorem dX4_takeFacts_66 : decode cX4_takeFacts 66 = .ok (.aload_n 0, 1) := by decide +kernel
theorem dX4_takeFacts_67 : decode cX4_takeFacts 67 = .ok (.getfield 56, 3) := by decide +kernel
theorem dX4_takeFacts_70 : decode cX4_takeFacts 70 = .ok (.iconst 3, 1) := by decide +kernel
theorem dX4_takeFacts_71 : decode cX4_takeFacts 71 = .ok (.iload_n 3, 1) := by decide +kernel
theorem dX4_takeFacts_72 : decode cX4_takeFacts 72 = .ok (.aload_n 1, 1) := by decide +kernel
theorem dX4_takeFacts_73 : decode cX4_takeFacts 73 = .ok (.getfield 95, 3) := by decide +kernel
theorem dX4_takeFacts_76 : decode cX4_takeFacts 76 = .ok (.iload_n 2, 1) := by decide +kernel
theorem dX4_takeFacts_77 : decode cX4_takeFacts 77 = .ok (.iaload, 1) := by decide +kernel
theorem dX4_takeFacts_78 : decode cX4_takeFacts 78 = .ok (.isub, 1) := by decide +kernel
theorem dX4_takeFacts_79 : decode cX4_takeFacts 79 = .ok (.iastore, 1) := by decide +kernel
theorem dX4_takeFacts_80 : decode cX4_takeFacts 80 = .ok (.aload_n 0, 1) := by decide +kernel
theorem dX4_takeFacts_81 : decode cX4_takeFacts 81 = .ok (.getfield 56, 3) := by decide +kernel
theorem dX4_takeFacts_84 : decode cX4_takeFacts 84 = .ok (.iconst 4, 1) := by decide +kernel
theorem dX4_takeFacts_85 : decode cX4_takeFacts 85 = .ok (.aload_n 0, 1) := by decide +kernel
theorem dX4_takeFacts_86 : decode cX4_takeFacts 86 = .ok (.getfield 21, 3) := by decide +kernel
theorem dX4_takeFacts_89 : decode cX4_takeFacts 89 = .ok (.iload 5, 2) := by decide +kernel
theorem dX4_takeFacts_91 : decode cX4_takeFacts 91 = .ok (.iload_n 3, 1) := by decide +kernel
theorem dX4_takeFacts_92 : decode cX4_takeFacts 92 = .ok (.aload_n 0, 1) := by decide +kernel
theorem dX4_takeFacts_93 : decode cX4_takeFacts 93 = .ok (.getfield 12, 3) := by decide +kernel
theorem dX4_takeFacts_96 : decode cX4_takeFacts 96 = .ok (.iload 4, 2) := by decide +kernel
theorem dX4_takeFacts_98 : decode cX4_takeFacts 98 = .ok (.invokevirtual 174, 3) := by decide +kernel
theorem dX4_takeFacts_101 : decode cX4_takeFacts 101 = .ok (.invokevirtual 194, 3) := by decide +kernel
theorem dX4_takeFacts_104 : decode cX4_takeFacts 104 = .ok (.iastore, 1) := by decide +kernel
theorem dX4_takeFacts_105 : decode cX4_takeFacts 105 = .ok (.aload_n 0, 1) := by decide +kernel
theorem dX4_takeFacts_106 : decode cX4_takeFacts 106 = .ok (.getfield 56, 3) := by decide +kernel
theorem dX4_takeFacts_109 : decode cX4_takeFacts 109 = .ok (.iconst 5, 1) := by decide +kernel
theorem dX4_takeFacts_110 : decode cX4_takeFacts 110 = .ok (.aload_n 0, 1) := by decide +kernel
theorem dX4_takeFacts_111 : decode cX4_takeFacts 111 = .ok (.getfield 21, 3) := by decide +kernel
theorem dX4_takeFacts_114 : decode cX4_takeFacts 114 = .ok (.getfield 188, 3) := by decide +kernel
theorem dX4_takeFacts_117 : decode cX4_takeFacts 117 = .ok (.iload 5, 2) := by decide +kernel
theorem dX4_takeFacts_119 : decode cX4_takeFacts 119 = .ok (.iaload, 1) := by decide +kernel
theorem dX4_takeFacts_120 : decode cX4_takeFacts 120 = .ok (.iastore, 1) := by decide +kernel
theorem dX4_takeFacts_121 : decode cX4_takeFacts 121 = .ok (.aload_n 0, 1) := by decide +kernel
theorem dX4_takeFacts_122 : decode cX4_takeFacts 122 = .ok (.getfield 56, 3) := by decide +kernel
theorem dX4_takeFacts_125 : decode cX4_takeFacts 125 = .ok (.bipush 6, 2) := by decide +kernel
theorem dX4_takeFacts_127 : decode cX4_takeFacts 127 = .ok (.iload 4, 2) := by decide +kernel
theorem dX4_takeFacts_129 : decode cX4_takeFacts 129 = .ok (.iastore, 1) := by decide +kernel
theorem dX4_takeFacts_130 : decode cX4_takeFacts 130 = .ok (.aload_n 0, 1) := by decide +kernel
theorem dX4_takeFacts_131 : decode cX4_takeFacts 131 = .ok (.getfield 56, 3) := by decide +kernel
theorem dX4_takeFacts_134 : decode cX4_takeFacts 134 = .ok (.bipush 7, 2) := by decide +kernel
theorem dX4_takeFacts_136 : decode cX4_takeFacts 136 = .ok (.aload_n 1, 1) := by decide +kernel
theorem dX4_takeFacts_137 : decode cX4_takeFacts 137 = .ok (.getfield 115, 3) := by decide +kernel
theorem dX4_takeFacts_140 : decode cX4_takeFacts 140 = .ok (.iload_n 2, 1) := by decide +kernel
theorem dX4_takeFacts_141 : decode cX4_takeFacts 141 = .ok (.baload, 1) := by decide +kernel
theorem dX4_takeFacts_142 : decode cX4_takeFacts 142 = .ok (.ifCond .eq 7, 3) := by decide +kernel
theorem dX4_takeFacts_145 : decode cX4_takeFacts 145 = .ok (.iconst 1, 1) := by decide +kernel
theorem dX4_takeFacts_146 : decode cX4_takeFacts 146 = .ok (.goto 4, 3) := by decide +kernel
theorem dX4_takeFacts_149 : decode cX4_takeFacts 149 = .ok (.iconst 0, 1) := by decide +kernel
theorem dX4_takeFacts_150 : decode cX4_takeFacts 150 = .ok (.iastore, 1) := by decide +kernel
theorem dX4_takeFacts_151 : decode cX4_takeFacts 151 = .ok (.aload_n 0, 1) := by decide +kernel
theorem dX4_takeFacts_152 : decode cX4_takeFacts 152 = .ok (.getfield 56, 3) := by decide +kernel
theorem dX4_takeFacts_155 : decode cX4_takeFacts 155 = .ok (.bipush 8, 2) := by decide +kernel
theorem dX4_takeFacts_157 : decode cX4_takeFacts 157 = .ok (.aload_n 1, 1) := by decide +kernel
theorem dX4_takeFacts_158 : decode cX4_takeFacts 158 = .ok (.getfield 197, 3) := by decide +kernel
theorem dX4_takeFacts_161 : decode cX4_takeFacts 161 = .ok (.iload_n 2, 1) := by decide +kernel
theorem dX4_takeFacts_162 : decode cX4_takeFacts 162 = .ok (.iaload, 1) := by decide +kernel
theorem dX4_takeFacts_163 : decode cX4_takeFacts 163 = .ok (.iastore, 1) := by decide +kernel
theorem dX4_takeFacts_164 : decode cX4_takeFacts 164 = .ok (.return_, 1) := by decide +kernel
theorem dX4_purposeHolds_0 : decode cX4_purposeHolds 0 = .ok (.aload_n 0, 1) := by decide +kernel
theorem dX4_purposeHolds_1 : decode cX4_purposeHolds 1 = .ok (.getfield 28, 3) := by decide +kernel
theorem dX4_purposeHolds_4 : decode cX4_purposeHolds 4 = .ok (.iload_n 1, 1) := by decide +kernel
theorem dX4_purposeHolds_5 : decode cX4_purposeHolds 5 = .ok (.iload_n 3, 1) := by decide +kernel
theorem dX4_purposeHolds_6 : decode cX4_purposeHolds 6 = .ok (.aload_n 0, 1) := by decide +kernel
theorem dX4_purposeHolds_7 : decode cX4_purposeHolds 7 = .ok (.getfield 12, 3) := by decide +kernel
theorem dX4_purposeHolds_10 : decode cX4_purposeHolds 10 = .ok (.iload_n 2, 1) := by decide +kernel
theorem dX4_purposeHolds_11 : decode cX4_purposeHolds 11 = .ok (.invokevirtual 174, 3) := by decide +kernel
theorem dX4_purposeHolds_14 : decode cX4_purposeHolds 14 = .ok (.invokevirtual 200, 3) := by decide +kernel
theorem dX4_purposeHolds_17 : decode cX4_purposeHolds 17 = .ok (.istore 4, 2) := by decide +kernel
theorem dX4_purposeHolds_19 : decode cX4_purposeHolds 19 = .ok (.iload 4, 2) := by decide +kernel
theorem dX4_purposeHolds_21 : decode cX4_purposeHolds 21 = .ok (.ifCond .lt 23, 3) := by decide +kernel
theorem dX4_purposeHolds_24 : decode cX4_purposeHolds 24 = .ok (.aload_n 0, 1) := by decide +kernel
theorem dX4_purposeHolds_25 : decode cX4_purposeHolds 25 = .ok (.getfield 28, 3) := by decide +kernel
theorem dX4_purposeHolds_28 : decode cX4_purposeHolds 28 = .ok (.iload 4, 2) := by decide +kernel
theorem dX4_purposeHolds_30 : decode cX4_purposeHolds 30 = .ok (.aload_n 0, 1) := by decide +kernel
theorem dX4_purposeHolds_31 : decode cX4_purposeHolds 31 = .ok (.getfield 56, 3) := by decide +kernel
theorem dX4_purposeHolds_34 : decode cX4_purposeHolds 34 = .ok (.invokevirtual 203, 3) := by decide +kernel
theorem dX4_purposeHolds_37 : decode cX4_purposeHolds 37 = .ok (.ifCond .eq 7, 3) := by decide +kernel
theorem dX4_purposeHolds_40 : decode cX4_purposeHolds 40 = .ok (.iconst 1, 1) := by decide +kernel
theorem dX4_purposeHolds_41 : decode cX4_purposeHolds 41 = .ok (.goto 4, 3) := by decide +kernel
theorem dX4_purposeHolds_44 : decode cX4_purposeHolds 44 = .ok (.iconst 0, 1) := by decide +kernel
theorem dX4_purposeHolds_45 : decode cX4_purposeHolds 45 = .ok (.ireturn, 1) := by decide +kernel
theorem dX5_init_0 : decode cX5_init 0 = .ok (.aload_n 0, 1) := by decide +kernel
theorem dX5_init_1 : decode cX5_init 1 = .ok (.invokespecial 5, 3) := by decide +kernel
theorem dX5_init_4 : decode cX5_init 4 = .ok (.aload_n 0, 1) := by decide +kernel
theorem dX5_init_5 : decode cX5_init 5 = .ok (.bipush 60, 2) := by decide +kernel
theorem dX5_init_7 : decode cX5_init 7 = .ok (.newarray .byte, 2) := by decide +kernel
theorem dX5_init_9 : decode cX5_init 9 = .ok (.putfield 11, 3) := by decide +kernel
theorem dX5_init_12 : decode cX5_init 12 = .ok (.aload_n 0, 1) := by decide +kernel
theorem dX5_init_13 : decode cX5_init 13 = .ok (.bipush 60, 2) := by decide +kernel
theorem dX5_init_15 : decode cX5_init 15 = .ok (.newarray .int, 2) := by decide +kernel
theorem dX5_init_17 : decode cX5_init 17 = .ok (.putfield 15, 3) := by decide +kernel
theorem dX5_init_20 : decode cX5_init 20 = .ok (.return_, 1) := by decide +kernel
theorem dX5_readText_0 : decode cX5_readText 0 = .ok (.aload_n 0, 1) := by decide +kernel
theorem dX5_readText_1 : decode cX5_readText 1 = .ok (.iload_n 1, 1) := by decide +kernel
theorem dX5_readText_2 : decode cX5_readText 2 = .ok (.aload_n 0, 1) := by decide +kernel
theorem dX5_readText_3 : decode cX5_readText 3 = .ok (.getfield 11, 3) := by decide +kernel
theorem dX5_readText_6 : decode cX5_readText 6 = .ok (.arraylength, 1) := by decide +kernel
theorem dX5_readText_7 : decode cX5_readText 7 = .ok (.invokestatic 19, 3) := by decide +kernel
theorem dX5_readText_10 : decode cX5_readText 10 = .ok (.putfield 25, 3) := by decide +kernel
theorem dX5_readText_13 : decode cX5_readText 13 = .ok (.aload_n 0, 1) := by decide +kernel
theorem dX5_readText_14 : decode cX5_readText 14 = .ok (.iconst 0, 1) := by decide +kernel
theorem dX5_readText_15 : decode cX5_readText 15 = .ok (.putfield 29, 3) := by decide +kernel
theorem dX5_readText_18 : decode cX5_readText 18 = .ok (.aload_n 0, 1) := by decide +kernel
theorem dX5_readText_19 : decode cX5_readText 19 = .ok (.iconst (-1), 1) := by decide +kernel
theorem dX5_readText_20 : decode cX5_readText 20 = .ok (.putfield 32, 3) := by decide +kernel
theorem dX5_readText_23 : decode cX5_readText 23 = .ok (.aload_n 0, 1) := by decide +kernel
theorem dX5_readText_24 : decode cX5_readText 24 = .ok (.iconst 0, 1) := by decide +kernel
theorem dX5_readText_25 : decode cX5_readText 25 = .ok (.invokevirtual 35, 3) := by decide +kernel
theorem dX5_readText_28 : decode cX5_readText 28 = .ok (.aload_n 0, 1) := by decide +kernel
theorem dX5_readText_29 : decode cX5_readText 29 = .ok (.iconst 0, 1) := by decide +kernel
theorem dX5_readText_30 : decode cX5_readText 30 = .ok (.invokevirtual 39, 3) := by decide +kernel
theorem dX5_readText_33 : decode cX5_readText 33 = .ok (.aload_n 0, 1) := by decide +kernel
theorem dX5_readText_34 : decode cX5_readText 34 = .ok (.getfield 42, 3) := by decide +kernel
theorem dX5_readText_37 : decode cX5_readText 37 = .ok (.aload_n 0, 1) := by decide +kernel
theorem dX5_readText_38 : decode cX5_readText 38 = .ok (.getfield 25, 3) := by decide +kernel
theorem dX5_readText_41 : decode cX5_readText 41 = .ok (.if_icmp .ge 7, 3) := by decide +kernel
theorem dX5_readText_44 : decode cX5_readText 44 = .ok (.aload_n 0, 1) := by decide +kernel
theorem dX5_readText_45 : decode cX5_readText 45 = .ok (.invokevirtual 45, 3) := by decide +kernel
theorem dX5_readText_48 : decode cX5_readText 48 = .ok (.aload_n 0, 1) := by decide +kernel
theorem dX5_readText_49 : decode cX5_readText 49 = .ok (.getfield 32, 3) := by decide +kernel
theorem dX5_readText_52 : decode cX5_readText 52 = .ok (.ireturn, 1) := by decide +kernel
theorem dX5_ors_0 : decode cX5_ors 0 = .ok (.aload_n 0, 1) := by decide +kernel
theorem dX5_ors_1 : decode cX5_ors 1 = .ok (.iload_n 1, 1) := by decide +kernel
theorem dX5_ors_2 : decode cX5_ors 2 = .ok (.invokevirtual 48, 3) := by decide +kernel
theorem dX5_ors_5 : decode cX5_ors 5 = .ok (.iconst 0, 1) := by decide +kernel
theorem dX5_ors_6 : decode cX5_ors 6 = .ok (.istore_n 2, 1) := by decide +kernel
theorem dX5_ors_7 : decode cX5_ors 7 = .ok (.iload_n 2, 1) := by decide +kernel
theorem dX5_ors_8 : decode cX5_ors 8 = .ok (.bipush 60, 2) := by decide +kernel
theorem dX5_ors_10 : decode cX5_ors 10 = .ok (.if_icmp .ge 29, 3) := by decide +kernel
theorem dX5_ors_13 : decode cX5_ors 13 = .ok (.aload_n 0, 1) := by decide +kernel
theorem dX5_ors_14 : decode cX5_ors 14 = .ok (.bipush 124, 2) := by decide +kernel
theorem dX5_ors_16 : decode cX5_ors 16 = .ok (.invokevirtual 51, 3) := by decide +kernel
theorem dX5_ors_19 : decode cX5_ors 19 = .ok (.ifCond .eq 20, 3) := by decide +kernel
theorem dX5_ors_22 : decode cX5_ors 22 = .ok (.aload_n 0, 1) := by decide +kernel
theorem dX5_ors_23 : decode cX5_ors 23 = .ok (.iload_n 1, 1) := by decide +kernel
theorem dX5_ors_24 : decode cX5_ors 24 = .ok (.invokevirtual 48, 3) := by decide +kernel
theorem dX5_ors_27 : decode cX5_ors 27 = .ok (.aload_n 0, 1) := by decide +kernel
theorem dX5_ors_28 : decode cX5_ors 28 = .ok (.bipush (-3), 2) := by decide +kernel
theorem dX5_ors_30 : decode cX5_ors 30 = .ok (.invokevirtual 55, 3) := by decide +kernel
theorem dX5_ors_33 : decode cX5_ors 33 = .ok (.iinc 2 1, 3) := by decide +kernel
theorem dX5_ors_36 : decode cX5_ors 36 = .ok (.goto (-29), 3) := by decide +kernel
theorem dX5_ors_39 : decode cX5_ors 39 = .ok (.return_, 1) := by decide +kernel
theorem dX5_ands_0 : decode cX5_ands 0 = .ok (.aload_n 0, 1) := by decide +kernel
theorem dX5_ands_1 : decode cX5_ands 1 = .ok (.iload_n 1, 1) := by decide +kernel
theorem dX5_ands_2 : decode cX5_ands 2 = .ok (.invokevirtual 58, 3) := by decide +kernel
theorem dX5_ands_5 : decode cX5_ands 5 = .ok (.iconst 0, 1) := by decide +kernel
theorem dX5_ands_6 : decode cX5_ands 6 = .ok (.istore_n 2, 1) := by decide +kernel
theorem dX5_ands_7 : decode cX5_ands 7 = .ok (.iload_n 2, 1) := by decide +kernel
theorem dX5_ands_8 : decode cX5_ands 8 = .ok (.bipush 60, 2) := by decide +kernel
theorem dX5_ands_10 : decode cX5_ands 10 = .ok (.if_icmp .ge 29, 3) := by decide +kernel
theorem dX5_ands_13 : decode cX5_ands 13 = .ok (.aload_n 0, 1) := by decide +kernel
theorem dX5_ands_14 : decode cX5_ands 14 = .ok (.bipush 38, 2) := by decide +kernel
theorem dX5_ands_16 : decode cX5_ands 16 = .ok (.invokevirtual 51, 3) := by decide +kernel
theorem dX5_ands_19 : decode cX5_ands 19 = .ok (.ifCond .eq 20, 3) := by decide +kernel
theorem dX5_ands_22 : decode cX5_ands 22 = .ok (.aload_n 0, 1) := by decide +kernel
theorem dX5_ands_23 : decode cX5_ands 23 = .ok (.iload_n 1, 1) := by decide +kernel
theorem dX5_ands_24 : decode cX5_ands 24 = .ok (.invokevirtual 58, 3) := by decide +kernel
theorem dX5_ands_27 : decode cX5_ands 27 = .ok (.aload_n 0, 1) := by decide +kernel
theorem dX5_ands_28 : decode cX5_ands 28 = .ok (.bipush (-2), 2) := by decide +kernel
theorem dX5_ands_30 : decode cX5_ands 30 = .ok (.invokevirtual 55, 3) := by decide +kernel
theorem dX5_ands_33 : decode cX5_ands 33 = .ok (.iinc 2 1, 3) := by decide +kernel
theorem dX5_ands_36 : decode cX5_ands 36 = .ok (.goto (-29), 3) := by decide +kernel
theorem dX5_ands_39 : decode cX5_ands 39 = .ok (.return_, 1) := by decide +kernel
theorem dX5_test_0 : decode cX5_test 0 = .ok (.aload_n 0, 1) := by decide +kernel
theorem dX5_test_1 : decode cX5_test 1 = .ok (.getfield 61, 3) := by decide +kernel
theorem dX5_test_4 : decode cX5_test 4 = .ok (.bipush 33, 2) := by decide +kernel
theorem dX5_test_6 : decode cX5_test 6 = .ok (.if_icmp .eq 12, 3) := by decide +kernel
theorem dX5_test_9 : decode cX5_test 9 = .ok (.aload_n 0, 1) := by decide +kernel
theorem dX5_test_10 : decode cX5_test 10 = .ok (.getfield 61, 3) := by decide +kernel
theorem dX5_test_13 : decode cX5_test 13 = .ok (.bipush 40, 2) := by decide +kernel
theorem dX5_test_15 : decode cX5_test 15 = .ok (.if_icmp .ne 7, 3) := by decide +kernel
theorem dX5_test_18 : decode cX5_test 18 = .ok (.iconst 1, 1) := by decide +kernel
theorem dX5_test_19 : decode cX5_test 19 = .ok (.goto 4, 3) := by decide +kernel
theorem dX5_test_22 : decode cX5_test 22 = .ok (.iconst 0, 1) := by decide +kernel
theorem dX5_test_23 : decode cX5_test 23 = .ok (.istore_n 2, 1) := by decide +kernel
theorem dX5_test_24 : decode cX5_test 24 = .ok (.iload_n 2, 1) := by decide +kernel
theorem dX5_test_25 : decode cX5_test 25 = .ok (.ifCond .eq 15, 3) := by decide +kernel
theorem dX5_test_28 : decode cX5_test 28 = .ok (.iload_n 1, 1) := by decide +kernel
theorem dX5_test_29 : decode cX5_test 29 = .ok (.iconst 5, 1) := by decide +kernel
theorem dX5_test_30 : decode cX5_test 30 = .ok (.if_icmp .lt 10, 3) := by decide +kernel
theorem dX5_test_33 : decode cX5_test 33 = .ok (.aload_n 0, 1) := by decide +kernel
theorem dX5_test_34 : decode cX5_test 34 = .ok (.invokevirtual 45, 3) := by decide +kernel
theorem dX5_test_37 : decode cX5_test 37 = .ok (.goto 88, 3) := by decide +kernel
theorem dX5_test_40 : decode cX5_test 40 = .ok (.aload_n 0, 1) := by decide +kernel
theorem dX5_test_41 : decode cX5_test 41 = .ok (.bipush 33, 2) := by decide +kernel
theorem dX5_test_43 : decode cX5_test 43 = .ok (.invokevirtual 51, 3) := by decide +kernel
theorem dX5_test_46 : decode cX5_test 46 = .ok (.ifCond .eq 18, 3) := by decide +kernel
theorem dX5_test_49 : decode cX5_test 49 = .ok (.aload_n 0, 1) := by decide +kernel
theorem dX5_test_50 : decode cX5_test 50 = .ok (.iload_n 1, 1) := by decide +kernel
theorem dX5_test_51 : decode cX5_test 51 = .ok (.iconst 1, 1) := by decide +kernel
theorem dX5_test_52 : decode cX5_test 52 = .ok (.iadd, 1) := by decide +kernel
theorem dX5_test_53 : decode cX5_test 53 = .ok (.invokevirtual 58, 3) := by decide +kernel
theorem dX5_test_56 : decode cX5_test 56 = .ok (.aload_n 0, 1) := by decide +kernel
theorem dX5_test_57 : decode cX5_test 57 = .ok (.iconst (-1), 1) := by decide +kernel
theorem dX5_test_58 : decode cX5_test 58 = .ok (.invokevirtual 55, 3) := by decide +kernel
theorem dX5_test_61 : decode cX5_test 61 = .ok (.goto 64, 3) := by decide +kernel
theorem dX5_test_64 : decode cX5_test 64 = .ok (.aload_n 0, 1) := by decide +kernel
theorem dX5_test_65 : decode cX5_test 65 = .ok (.bipush 40, 2) := by decide +kernel
theorem dX5_test_67 : decode cX5_test 67 = .ok (.invokevirtual 51, 3) := by decide +kernel
theorem dX5_test_70 : decode cX5_test 70 = .ok (.ifCond .eq 26, 3) := by decide +kernel
theorem dX5_test_73 : decode cX5_test 73 = .ok (.aload_n 0, 1) := by decide +kernel
theorem dX5_test_74 : decode cX5_test 74 = .ok (.iload_n 1, 1) := by decide +kernel
theorem dX5_test_75 : decode cX5_test 75 = .ok (.iconst 1, 1) := by decide +kernel
theorem dX5_test_76 : decode cX5_test 76 = .ok (.iadd, 1) := by decide +kernel
theorem dX5_test_77 : decode cX5_test 77 = .ok (.invokevirtual 39, 3) := by decide +kernel
theorem dX5_test_80 : decode cX5_test 80 = .ok (.aload_n 0, 1) := by decide +kernel
theorem dX5_test_81 : decode cX5_test 81 = .ok (.bipush 41, 2) := by decide +kernel
theorem dX5_test_83 : decode cX5_test 83 = .ok (.invokevirtual 51, 3) := by decide +kernel
theorem dX5_test_86 : decode cX5_test 86 = .ok (.ifCond .ne 39, 3) := by decide +kernel
theorem dX5_test_89 : decode cX5_test 89 = .ok (.aload_n 0, 1) := by decide +kernel
theorem dX5_test_90 : decode cX5_test 90 = .ok (.invokevirtual 45, 3) := by decide +kernel
theorem dX5_test_93 : decode cX5_test 93 = .ok (.goto 32, 3) := by decide +kernel
theorem dX5_test_96 : decode cX5_test 96 = .ok (.aload_n 0, 1) := by decide +kernel
theorem dX5_test_97 : decode cX5_test 97 = .ok (.invokevirtual 65, 3) := by decide +kernel
theorem dX5_test_100 : decode cX5_test 100 = .ok (.istore_n 3, 1) := by decide +kernel
theorem dX5_test_101 : decode cX5_test 101 = .ok (.aload_n 0, 1) := by decide +kernel
theorem dX5_test_102 : decode cX5_test 102 = .ok (.invokevirtual 69, 3) := by decide +kernel
theorem dX5_test_105 : decode cX5_test 105 = .ok (.istore 4, 2) := by decide +kernel
theorem dX5_test_107 : decode cX5_test 107 = .ok (.aload_n 0, 1) := by decide +kernel
theorem dX5_test_108 : decode cX5_test 108 = .ok (.iload_n 3, 1) := by decide +kernel
theorem dX5_test_109 : decode cX5_test 109 = .ok (.iconst 2, 1) := by decide +kernel
theorem dX5_test_110 : decode cX5_test 110 = .ok (.ishl, 1) := by decide +kernel
theorem dX5_test_111 : decode cX5_test 111 = .ok (.iload 4, 2) := by decide +kernel
theorem dX5_test_113 : decode cX5_test 113 = .ok (.ior, 1) := by decide +kernel
theorem dX5_test_114 : decode cX5_test 114 = .ok (.bipush 14, 2) := by decide +kernel
theorem dX5_test_116 : decode cX5_test 116 = .ok (.ishl, 1) := by decide +kernel
theorem dX5_test_117 : decode cX5_test 117 = .ok (.aload_n 0, 1) := by decide +kernel
theorem dX5_test_118 : decode cX5_test 118 = .ok (.invokevirtual 65, 3) := by decide +kernel
theorem dX5_test_121 : decode cX5_test 121 = .ok (.ior, 1) := by decide +kernel
theorem dX5_test_122 : decode cX5_test 122 = .ok (.invokevirtual 55, 3) := by decide +kernel
theorem dX5_test_125 : decode cX5_test 125 = .ok (.return_, 1) := by decide +kernel
theorem dX5_unit_0 : decode cX5_unit 0 = .ok (.ldc 72, 2) := by decide +kernel
theorem dX5_unit_2 : decode cX5_unit 2 = .ok (.aload_n 0, 1) := by decide +kernel
theorem dX5_unit_3 : decode cX5_unit 3 = .ok (.getfield 61, 3) := by decide +kernel
theorem dX5_unit_6 : decode cX5_unit 6 = .ok (.invokevirtual 74, 3) := by decide +kernel
theorem dX5_unit_9 : decode cX5_unit 9 = .ok (.istore_n 1, 1) := by decide +kernel
theorem dX5_unit_10 : decode cX5_unit 10 = .ok (.iload_n 1, 1) := by decide +kernel
theorem dX5_unit_11 : decode cX5_unit 11 = .ok (.ifCond .lt 19, 3) := by decide +kernel
theorem dX5_unit_14 : decode cX5_unit 14 = .ok (.aload_n 0, 1) := by decide +kernel
theorem dX5_unit_15 : decode cX5_unit 15 = .ok (.aload_n 0, 1) := by decide +kernel
theorem dX5_unit_16 : decode cX5_unit 16 = .ok (.getfield 42, 3) := by decide +kernel
theorem dX5_unit_19 : decode cX5_unit 19 = .ok (.iconst 1, 1) := by decide +kernel
theorem dX5_unit_20 : decode cX5_unit 20 = .ok (.iadd, 1) := by decide +kernel
theorem dX5_unit_21 : decode cX5_unit 21 = .ok (.invokevirtual 35, 3) := by decide +kernel
theorem dX5_unit_24 : decode cX5_unit 24 = .ok (.sipush 10000, 3) := by decide +kernel
theorem dX5_unit_27 : decode cX5_unit 27 = .ok (.iload_n 1, 1) := by decide +kernel
theorem dX5_unit_28 : decode cX5_unit 28 = .ok (.iadd, 1) := by decide +kernel
theorem dX5_unit_29 : decode cX5_unit 29 = .ok (.ireturn, 1) := by decide +kernel
theorem dX5_unit_30 : decode cX5_unit 30 = .ok (.aload_n 0, 1) := by decide +kernel
theorem dX5_unit_31 : decode cX5_unit 31 = .ok (.getfield 61, 3) := by decide +kernel
theorem dX5_unit_34 : decode cX5_unit 34 = .ok (.bipush 48, 2) := by decide +kernel
theorem dX5_unit_36 : decode cX5_unit 36 = .ok (.if_icmp .lt 12, 3) := by decide +kernel
theorem dX5_unit_39 : decode cX5_unit 39 = .ok (.aload_n 0, 1) := by decide +kernel
theorem dX5_unit_40 : decode cX5_unit 40 = .ok (.getfield 61, 3) := by decide +kernel
theorem dX5_unit_43 : decode cX5_unit 43 = .ok (.bipush 57, 2) := by decide +kernel
theorem dX5_unit_45 : decode cX5_unit 45 = .ok (.if_icmp .le 7, 3) := by decide +kernel
theorem dX5_unit_48 : decode cX5_unit 48 = .ok (.aload_n 0, 1) := by decide +kernel
theorem dX5_unit_49 : decode cX5_unit 49 = .ok (.invokevirtual 45, 3) := by decide +kernel
theorem dX5_unit_52 : decode cX5_unit 52 = .ok (.iconst 0, 1) := by decide +kernel
theorem dX5_unit_53 : decode cX5_unit 53 = .ok (.istore_n 2, 1) := by decide +kernel
theorem dX5_unit_54 : decode cX5_unit 54 = .ok (.iconst 0, 1) := by decide +kernel
theorem dX5_unit_55 : decode cX5_unit 55 = .ok (.istore_n 3, 1) := by decide +kernel
theorem dX5_unit_56 : decode cX5_unit 56 = .ok (.iload_n 3, 1) := by decide +kernel
theorem dX5_unit_57 : decode cX5_unit 57 = .ok (.iconst 4, 1) := by decide +kernel
theorem dX5_unit_58 : decode cX5_unit 58 = .ok (.if_icmp .ge 50, 3) := by decide +kernel
theorem dX5_unit_61 : decode cX5_unit 61 = .ok (.aload_n 0, 1) := by decide +kernel
theorem dX5_unit_62 : decode cX5_unit 62 = .ok (.getfield 61, 3) := by decide +kernel
theorem dX5_unit_65 : decode cX5_unit 65 = .ok (.bipush 48, 2) := by decide +kernel
theorem dX5_unit_67 : decode cX5_unit 67 = .ok (.if_icmp .lt 41, 3) := by decide +kernel
theorem dX5_unit_70 : decode cX5_unit 70 = .ok (.aload_n 0, 1) := by decide +kernel
theorem dX5_unit_71 : decode cX5_unit 71 = .ok (.getfield 61, 3) := by decide +kernel
theorem dX5_unit_74 : decode cX5_unit 74 = .ok (.bipush 57, 2) := by decide +kernel
theorem dX5_unit_76 : decode cX5_unit 76 = .ok (.if_icmp .gt 32, 3) := by decide +kernel
theorem dX5_unit_79 : decode cX5_unit 79 = .ok (.iload_n 2, 1) := by decide +kernel
theorem dX5_unit_80 : decode cX5_unit 80 = .ok (.bipush 10, 2) := by decide +kernel
theorem dX5_unit_82 : decode cX5_unit 82 = .ok (.imul, 1) := by decide +kernel
theorem dX5_unit_83 : decode cX5_unit 83 = .ok (.aload_n 0, 1) := by decide +kernel
theorem dX5_unit_84 : decode cX5_unit 84 = .ok (.getfield 61, 3) := by decide +kernel
theorem dX5_unit_87 : decode cX5_unit 87 = .ok (.bipush 48, 2) := by decide +kernel
theorem dX5_unit_89 : decode cX5_unit 89 = .ok (.isub, 1) := by decide +kernel
theorem dX5_unit_90 : decode cX5_unit 90 = .ok (.iadd, 1) := by decide +kernel
theorem dX5_unit_91 : decode cX5_unit 91 = .ok (.istore_n 2, 1) := by decide +kernel
theorem dX5_unit_92 : decode cX5_unit 92 = .ok (.aload_n 0, 1) := by decide +kernel
theorem dX5_unit_93 : decode cX5_unit 93 = .ok (.aload_n 0, 1) := by decide +kernel
theorem dX5_unit_94 : decode cX5_unit 94 = .ok (.getfield 42, 3) := by decide +kernel
theorem dX5_unit_97 : decode cX5_unit 97 = .ok (.iconst 1, 1) := by decide +kernel
theorem dX5_unit_98 : decode cX5_unit 98 = .ok (.iadd, 1) := by decide +kernel
theorem dX5_unit_99 : decode cX5_unit 99 = .ok (.invokevirtual 35, 3) := by decide +kernel
theorem dX5_unit_102 : decode cX5_unit 102 = .ok (.iinc 3 1, 3) := by decide +kernel
theorem dX5_unit_105 : decode cX5_unit 105 = .ok (.goto (-49), 3) := by decide +kernel
theorem dX5_unit_108 : decode cX5_unit 108 = .ok (.iload_n 2, 1) := by decide +kernel
theorem dX5_unit_109 : decode cX5_unit 109 = .ok (.ireturn, 1) := by decide +kernel
theorem dX5_sign_0 : decode cX5_sign 0 = .ok (.ldc 80, 2) := by decide +kernel
theorem dX5_sign_2 : decode cX5_sign 2 = .ok (.aload_n 0, 1) := by decide +kernel
theorem dX5_sign_3 : decode cX5_sign 3 = .ok (.getfield 61, 3) := by decide +kernel
theorem dX5_sign_6 : decode cX5_sign 6 = .ok (.invokevirtual 74, 3) := by decide +kernel
theorem dX5_sign_9 : decode cX5_sign 9 = .ok (.istore_n 1, 1) := by decide +kernel
theorem dX5_sign_10 : decode cX5_sign 10 = .ok (.iload_n 1, 1) := by decide +kernel
theorem dX5_sign_11 : decode cX5_sign 11 = .ok (.ifCond .ge 9, 3) := by decide +kernel
theorem dX5_sign_14 : decode cX5_sign 14 = .ok (.aload_n 0, 1) := by decide +kernel
theorem dX5_sign_15 : decode cX5_sign 15 = .ok (.invokevirtual 45, 3) := by decide +kernel
theorem dX5_sign_18 : decode cX5_sign 18 = .ok (.iconst 0, 1) := by decide +kernel
theorem dX5_sign_19 : decode cX5_sign 19 = .ok (.ireturn, 1) := by decide +kernel
theorem dX5_sign_20 : decode cX5_sign 20 = .ok (.aload_n 0, 1) := by decide +kernel
theorem dX5_sign_21 : decode cX5_sign 21 = .ok (.aload_n 0, 1) := by decide +kernel
theorem dX5_sign_22 : decode cX5_sign 22 = .ok (.getfield 42, 3) := by decide +kernel
theorem dX5_sign_25 : decode cX5_sign 25 = .ok (.iconst 1, 1) := by decide +kernel
theorem dX5_sign_26 : decode cX5_sign 26 = .ok (.iadd, 1) := by decide +kernel
theorem dX5_sign_27 : decode cX5_sign 27 = .ok (.invokevirtual 35, 3) := by decide +kernel
theorem dX5_sign_30 : decode cX5_sign 30 = .ok (.iload_n 1, 1) := by decide +kernel
theorem dX5_sign_31 : decode cX5_sign 31 = .ok (.ireturn, 1) := by decide +kernel
theorem dX5_take_0 : decode cX5_take 0 = .ok (.aload_n 0, 1) := by decide +kernel
theorem dX5_take_1 : decode cX5_take 1 = .ok (.getfield 61, 3) := by decide +kernel
theorem dX5_take_4 : decode cX5_take 4 = .ok (.iload_n 1, 1) := by decide +kernel
theorem dX5_take_5 : decode cX5_take 5 = .ok (.if_icmp .eq 5, 3) := by decide +kernel
theorem dX5_take_8 : decode cX5_take 8 = .ok (.iconst 0, 1) := by decide +kernel
theorem dX5_take_9 : decode cX5_take 9 = .ok (.ireturn, 1) := by decide +kernel
theorem dX5_take_10 : decode cX5_take 10 = .ok (.aload_n 0, 1) := by decide +kernel
theorem dX5_take_11 : decode cX5_take 11 = .ok (.aload_n 0, 1) := by decide +kernel
theorem dX5_take_12 : decode cX5_take 12 = .ok (.getfield 42, 3) := by decide +kernel
theorem dX5_take_15 : decode cX5_take 15 = .ok (.iconst 1, 1) := by decide +kernel
theorem dX5_take_16 : decode cX5_take 16 = .ok (.iadd, 1) := by decide +kernel
theorem dX5_take_17 : decode cX5_take 17 = .ok (.invokevirtual 35, 3) := by decide +kernel
theorem dX5_take_20 : decode cX5_take 20 = .ok (.iconst 1, 1) := by decide +kernel
theorem dX5_take_21 : decode cX5_take 21 = .ok (.ireturn, 1) := by decide +kernel
theorem dX5_goTo_0 : decode cX5_goTo 0 = .ok (.aload_n 0, 1) := by decide +kernel
theorem dX5_goTo_1 : decode cX5_goTo 1 = .ok (.iload_n 1, 1) := by decide +kernel
theorem dX5_goTo_2 : decode cX5_goTo 2 = .ok (.putfield 42, 3) := by decide +kernel
theorem dX5_goTo_5 : decode cX5_goTo 5 = .ok (.aload_n 0, 1) := by decide +kernel
theorem dX5_goTo_6 : decode cX5_goTo 6 = .ok (.iload_n 1, 1) := by decide +kernel
theorem dX5_goTo_7 : decode cX5_goTo 7 = .ok (.ifCond .lt 25, 3) := by decide +kernel
theorem dX5_goTo_10 : decode cX5_goTo 10 = .ok (.iload_n 1, 1) := by decide +kernel
theorem dX5_goTo_11 : decode cX5_goTo 11 = .ok (.aload_n 0, 1) := by decide +kernel
theorem dX5_goTo_12 : decode cX5_goTo 12 = .ok (.getfield 25, 3) := by decide +kernel
theorem dX5_goTo_15 : decode cX5_goTo 15 = .ok (.if_icmp .ge 17, 3) := by decide +kernel
theorem dX5_goTo_18 : decode cX5_goTo 18 = .ok (.aload_n 0, 1) := by decide +kernel
theorem dX5_goTo_19 : decode cX5_goTo 19 = .ok (.getfield 11, 3) := by decide +kernel
theorem dX5_goTo_22 : decode cX5_goTo 22 = .ok (.iload_n 1, 1) := by decide +kernel
theorem dX5_goTo_23 : decode cX5_goTo 23 = .ok (.baload, 1) := by decide +kernel
theorem dX5_goTo_24 : decode cX5_goTo 24 = .ok (.sipush 255, 3) := by decide +kernel
theorem dX5_goTo_27 : decode cX5_goTo 27 = .ok (.iand, 1) := by decide +kernel
theorem dX5_goTo_28 : decode cX5_goTo 28 = .ok (.i2c, 1) := by decide +kernel
theorem dX5_goTo_29 : decode cX5_goTo 29 = .ok (.goto 4, 3) := by decide +kernel
theorem dX5_goTo_32 : decode cX5_goTo 32 = .ok (.iconst 0, 1) := by decide +kernel
theorem dX5_goTo_33 : decode cX5_goTo 33 = .ok (.putfield 61, 3) := by decide +kernel
theorem dX5_goTo_36 : decode cX5_goTo 36 = .ok (.return_, 1) := by decide +kernel
theorem dX5_fail_0 : decode cX5_fail 0 = .ok (.aload_n 0, 1) := by decide +kernel
theorem dX5_fail_1 : decode cX5_fail 1 = .ok (.getfield 32, 3) := by decide +kernel
theorem dX5_fail_4 : decode cX5_fail 4 = .ok (.ifCond .ge 11, 3) := by decide +kernel
theorem dX5_fail_7 : decode cX5_fail 7 = .ok (.aload_n 0, 1) := by decide +kernel
theorem dX5_fail_8 : decode cX5_fail 8 = .ok (.aload_n 0, 1) := by decide +kernel
theorem dX5_fail_9 : decode cX5_fail 9 = .ok (.getfield 42, 3) := by decide +kernel
theorem dX5_fail_12 : decode cX5_fail 12 = .ok (.putfield 32, 3) := by decide +kernel
theorem dX5_fail_15 : decode cX5_fail 15 = .ok (.aload_n 0, 1) := by decide +kernel
theorem dX5_fail_16 : decode cX5_fail 16 = .ok (.iconst 0, 1) := by decide +kernel
theorem dX5_fail_17 : decode cX5_fail 17 = .ok (.putfield 61, 3) := by decide +kernel
theorem dX5_fail_20 : decode cX5_fail 20 = .ok (.return_, 1) := by decide +kernel
theorem dX5_write_0 : decode cX5_write 0 = .ok (.aload_n 0, 1) := by decide +kernel
theorem dX5_write_1 : decode cX5_write 1 = .ok (.getfield 29, 3) := by decide +kernel
theorem dX5_write_4 : decode cX5_write 4 = .ok (.aload_n 0, 1) := by decide +kernel
theorem dX5_write_5 : decode cX5_write 5 = .ok (.getfield 15, 3) := by decide +kernel
theorem dX5_write_8 : decode cX5_write 8 = .ok (.arraylength, 1) := by decide +kernel
theorem dX5_write_9 : decode cX5_write 9 = .ok (.if_icmp .ge 23, 3) := by decide +kernel
theorem dX5_write_12 : decode cX5_write 12 = .ok (.aload_n 0, 1) := by decide +kernel
theorem dX5_write_13 : decode cX5_write 13 = .ok (.getfield 15, 3) := by decide +kernel
theorem dX5_write_16 : decode cX5_write 16 = .ok (.aload_n 0, 1) := by decide +kernel
theorem dX5_write_17 : decode cX5_write 17 = .ok (.getfield 29, 3) := by decide +kernel
theorem dX5_write_20 : decode cX5_write 20 = .ok (.iload_n 1, 1) := by decide +kernel
theorem dX5_write_21 : decode cX5_write 21 = .ok (.iastore, 1) := by decide +kernel
theorem dX5_write_22 : decode cX5_write 22 = .ok (.aload_n 0, 1) := by decide +kernel
theorem dX5_write_23 : decode cX5_write 23 = .ok (.dup, 1) := by decide +kernel
theorem dX5_write_24 : decode cX5_write 24 = .ok (.getfield 29, 3) := by decide +kernel
theorem dX5_write_27 : decode cX5_write 27 = .ok (.iconst 1, 1) := by decide +kernel
theorem dX5_write_28 : decode cX5_write 28 = .ok (.iadd, 1) := by decide +kernel
theorem dX5_write_29 : decode cX5_write 29 = .ok (.putfield 29, 3) := by decide +kernel
theorem dX5_write_32 : decode cX5_write 32 = .ok (.return_, 1) := by decide +kernel
theorem dX6_init_0 : decode cX6_init 0 = .ok (.aload_n 0, 1) := by decide +kernel
theorem dX6_init_1 : decode cX6_init 1 = .ok (.invokespecial 3, 3) := by decide +kernel
theorem dX6_init_4 : decode cX6_init 4 = .ok (.aload_n 0, 1) := by decide +kernel
theorem dX6_init_5 : decode cX6_init 5 = .ok (.bipush 60, 2) := by decide +kernel
theorem dX6_init_7 : decode cX6_init 7 = .ok (.newarray .int, 2) := by decide +kernel
theorem dX6_init_9 : decode cX6_init 9 = .ok (.putfield 9, 3) := by decide +kernel
theorem dX6_init_12 : decode cX6_init 12 = .ok (.aload_n 0, 1) := by decide +kernel
theorem dX6_init_13 : decode cX6_init 13 = .ok (.bipush 60, 2) := by decide +kernel
theorem dX6_init_15 : decode cX6_init 15 = .ok (.newarray .int, 2) := by decide +kernel
theorem dX6_init_17 : decode cX6_init 17 = .ok (.putfield 15, 3) := by decide +kernel
theorem dX6_init_20 : decode cX6_init 20 = .ok (.aload_n 0, 1) := by decide +kernel
theorem dX6_init_21 : decode cX6_init 21 = .ok (.bipush 60, 2) := by decide +kernel
theorem dX6_init_23 : decode cX6_init 23 = .ok (.newarray .int, 2) := by decide +kernel
theorem dX6_init_25 : decode cX6_init 25 = .ok (.putfield 18, 3) := by decide +kernel
theorem dX6_init_28 : decode cX6_init 28 = .ok (.aload_n 0, 1) := by decide +kernel
theorem dX6_init_29 : decode cX6_init 29 = .ok (.bipush 60, 2) := by decide +kernel
theorem dX6_init_31 : decode cX6_init 31 = .ok (.newarray .int, 2) := by decide +kernel
theorem dX6_init_33 : decode cX6_init 33 = .ok (.putfield 21, 3) := by decide +kernel
theorem dX6_init_36 : decode cX6_init 36 = .ok (.aload_n 0, 1) := by decide +kernel
theorem dX6_init_37 : decode cX6_init 37 = .ok (.bipush 40, 2) := by decide +kernel
theorem dX6_init_39 : decode cX6_init 39 = .ok (.newarray .int, 2) := by decide +kernel
theorem dX6_init_41 : decode cX6_init 41 = .ok (.putfield 24, 3) := by decide +kernel
theorem dX6_init_44 : decode cX6_init 44 = .ok (.aload_n 0, 1) := by decide +kernel
theorem dX6_init_45 : decode cX6_init 45 = .ok (.bipush 40, 2) := by decide +kernel
theorem dX6_init_47 : decode cX6_init 47 = .ok (.newarray .int, 2) := by decide +kernel
theorem dX6_init_49 : decode cX6_init 49 = .ok (.putfield 27, 3) := by decide +kernel
theorem dX6_init_52 : decode cX6_init 52 = .ok (.aload_n 0, 1) := by decide +kernel
theorem dX6_init_53 : decode cX6_init 53 = .ok (.bipush 80, 2) := by decide +kernel
theorem dX6_init_55 : decode cX6_init 55 = .ok (.newarray .int, 2) := by decide +kernel
theorem dX6_init_57 : decode cX6_init 57 = .ok (.putfield 30, 3) := by decide +kernel
theorem dX6_init_60 : decode cX6_init 60 = .ok (.aload_n 0, 1) := by decide +kernel
theorem dX6_init_61 : decode cX6_init 61 = .ok (.bipush 80, 2) := by decide +kernel
theorem dX6_init_63 : decode cX6_init 63 = .ok (.newarray .int, 2) := by decide +kernel
theorem dX6_init_65 : decode cX6_init 65 = .ok (.putfield 33, 3) := by decide +kernel
theorem dX6_init_68 : decode cX6_init 68 = .ok (.aload_n 0, 1) := by decide +kernel
theorem dX6_init_69 : decode cX6_init 69 = .ok (.bipush 80, 2) := by decide +kernel
theorem dX6_init_71 : decode cX6_init 71 = .ok (.newarray .int, 2) := by decide +kernel
theorem dX6_init_73 : decode cX6_init 73 = .ok (.putfield 36, 3) := by decide +kernel
theorem dX6_init_76 : decode cX6_init 76 = .ok (.aload_n 0, 1) := by decide +kernel
theorem dX6_init_77 : decode cX6_init 77 = .ok (.bipush 80, 2) := by decide +kernel
theorem dX6_init_79 : decode cX6_init 79 = .ok (.newarray .int, 2) := by decide +kernel
theorem dX6_init_81 : decode cX6_init 81 = .ok (.putfield 39, 3) := by decide +kernel
theorem dX6_init_84 : decode cX6_init 84 = .ok (.return_, 1) := by decide +kernel
theorem dX6_hasMan_0 : decode cX6_hasMan 0 = .ok (.iload_n 1, 1) := by decide +kernel
theorem dX6_hasMan_1 : decode cX6_hasMan 1 = .ok (.ifCond .lt 15, 3) := by decide +kernel
theorem dX6_hasMan_4 : decode cX6_hasMan 4 = .ok (.iload_n 1, 1) := by decide +kernel
theorem dX6_hasMan_5 : decode cX6_hasMan 5 = .ok (.aload_n 0, 1) := by decide +kernel
theorem dX6_hasMan_6 : decode cX6_hasMan 6 = .ok (.getfield 42, 3) := by decide +kernel
theorem dX6_hasMan_9 : decode cX6_hasMan 9 = .ok (.if_icmp .ge 7, 3) := by decide +kernel
theorem dX6_hasMan_12 : decode cX6_hasMan 12 = .ok (.iconst 1, 1) := by decide +kernel
theorem dX6_hasMan_13 : decode cX6_hasMan 13 = .ok (.goto 4, 3) := by decide +kernel
theorem dX6_hasMan_16 : decode cX6_hasMan 16 = .ok (.iconst 0, 1) := by decide +kernel
theorem dX6_hasMan_17 : decode cX6_hasMan 17 = .ok (.ireturn, 1) := by decide +kernel
theorem dX6_addMove_0 : decode cX6_addMove 0 = .ok (.aload_n 0, 1) := by decide +kernel
theorem dX6_addMove_1 : decode cX6_addMove 1 = .ok (.getfield 9, 3) := by decide +kernel
theorem dX6_addMove_4 : decode cX6_addMove 4 = .ok (.aload_n 0, 1) := by decide +kernel
theorem dX6_addMove_5 : decode cX6_addMove 5 = .ok (.getfield 46, 3) := by decide +kernel
theorem dX6_addMove_8 : decode cX6_addMove 8 = .ok (.iload_n 1, 1) := by decide +kernel
theorem dX6_addMove_9 : decode cX6_addMove 9 = .ok (.iastore, 1) := by decide +kernel
theorem dX6_addMove_10 : decode cX6_addMove 10 = .ok (.aload_n 0, 1) := by decide +kernel
theorem dX6_addMove_11 : decode cX6_addMove 11 = .ok (.getfield 15, 3) := by decide +kernel
theorem dX6_addMove_14 : decode cX6_addMove 14 = .ok (.aload_n 0, 1) := by decide +kernel
theorem dX6_addMove_15 : decode cX6_addMove 15 = .ok (.getfield 46, 3) := by decide +kernel
theorem dX6_addMove_18 : decode cX6_addMove 18 = .ok (.iload_n 2, 1) := by decide +kernel
theorem dX6_addMove_19 : decode cX6_addMove 19 = .ok (.iastore, 1) := by decide +kernel
theorem dX6_addMove_20 : decode cX6_addMove 20 = .ok (.aload_n 0, 1) := by decide +kernel
theorem dX6_addMove_21 : decode cX6_addMove 21 = .ok (.getfield 18, 3) := by decide +kernel
theorem dX6_addMove_24 : decode cX6_addMove 24 = .ok (.aload_n 0, 1) := by decide +kernel
theorem dX6_addMove_25 : decode cX6_addMove 25 = .ok (.getfield 46, 3) := by decide +kernel
theorem dX6_addMove_28 : decode cX6_addMove 28 = .ok (.iload_n 3, 1) := by decide +kernel
theorem dX6_addMove_29 : decode cX6_addMove 29 = .ok (.iastore, 1) := by decide +kernel
theorem dX6_addMove_30 : decode cX6_addMove 30 = .ok (.aload_n 0, 1) := by decide +kernel
theorem dX6_addMove_31 : decode cX6_addMove 31 = .ok (.getfield 21, 3) := by decide +kernel
theorem dX6_addMove_34 : decode cX6_addMove 34 = .ok (.aload_n 0, 1) := by decide +kernel
theorem dX6_addMove_35 : decode cX6_addMove 35 = .ok (.getfield 46, 3) := by decide +kernel
theorem dX6_addMove_38 : decode cX6_addMove 38 = .ok (.iload 4, 2) := by decide +kernel
theorem dX6_addMove_40 : decode cX6_addMove 40 = .ok (.iastore, 1) := by decide +kernel
theorem dX6_addMove_41 : decode cX6_addMove 41 = .ok (.aload_n 0, 1) := by decide +kernel
theorem dX6_addMove_42 : decode cX6_addMove 42 = .ok (.dup, 1) := by decide +kernel
theorem dX6_addMove_43 : decode cX6_addMove 43 = .ok (.getfield 46, 3) := by decide +kernel
theorem dX6_addMove_46 : decode cX6_addMove 46 = .ok (.iconst 1, 1) := by decide +kernel
theorem dX6_addMove_47 : decode cX6_addMove 47 = .ok (.iadd, 1) := by decide +kernel
theorem dX6_addMove_48 : decode cX6_addMove 48 = .ok (.putfield 46, 3) := by decide +kernel
theorem dX6_addMove_51 : decode cX6_addMove 51 = .ok (.aload_n 0, 1) := by decide +kernel
theorem dX6_addMove_52 : decode cX6_addMove 52 = .ok (.getfield 46, 3) := by decide +kernel
theorem dX6_addMove_55 : decode cX6_addMove 55 = .ok (.ireturn, 1) := by decide +kernel
theorem dX6_addMan_0 : decode cX6_addMan 0 = .ok (.aload_n 0, 1) := by decide +kernel
theorem dX6_addMan_1 : decode cX6_addMan 1 = .ok (.getfield 24, 3) := by decide +kernel
theorem dX6_addMan_4 : decode cX6_addMan 4 = .ok (.aload_n 0, 1) := by decide +kernel
theorem dX6_addMan_5 : decode cX6_addMan 5 = .ok (.getfield 42, 3) := by decide +kernel
theorem dX6_addMan_8 : decode cX6_addMan 8 = .ok (.iload_n 1, 1) := by decide +kernel
theorem dX6_addMan_9 : decode cX6_addMan 9 = .ok (.iastore, 1) := by decide +kernel
theorem dX6_addMan_10 : decode cX6_addMan 10 = .ok (.aload_n 0, 1) := by decide +kernel
theorem dX6_addMan_11 : decode cX6_addMan 11 = .ok (.getfield 27, 3) := by decide +kernel
theorem dX6_addMan_14 : decode cX6_addMan 14 = .ok (.aload_n 0, 1) := by decide +kernel
theorem dX6_addMan_15 : decode cX6_addMan 15 = .ok (.getfield 42, 3) := by decide +kernel
theorem dX6_addMan_18 : decode cX6_addMan 18 = .ok (.iload_n 2, 1) := by decide +kernel
theorem dX6_addMan_19 : decode cX6_addMan 19 = .ok (.iastore, 1) := by decide +kernel
theorem dX6_addMan_20 : decode cX6_addMan 20 = .ok (.aload_n 0, 1) := by decide +kernel
theorem dX6_addMan_21 : decode cX6_addMan 21 = .ok (.dup, 1) := by decide +kernel
theorem dX6_addMan_22 : decode cX6_addMan 22 = .ok (.getfield 42, 3) := by decide +kernel
theorem dX6_addMan_25 : decode cX6_addMan 25 = .ok (.iconst 1, 1) := by decide +kernel
theorem dX6_addMan_26 : decode cX6_addMan 26 = .ok (.iadd, 1) := by decide +kernel
theorem dX6_addMan_27 : decode cX6_addMan 27 = .ok (.putfield 42, 3) := by decide +kernel
theorem dX6_addMan_30 : decode cX6_addMan 30 = .ok (.aload_n 0, 1) := by decide +kernel
theorem dX6_addMan_31 : decode cX6_addMan 31 = .ok (.getfield 42, 3) := by decide +kernel
theorem dX6_addMan_34 : decode cX6_addMan 34 = .ok (.iconst 1, 1) := by decide +kernel
theorem dX6_addMan_35 : decode cX6_addMan 35 = .ok (.isub, 1) := by decide +kernel
theorem dX6_addMan_36 : decode cX6_addMan 36 = .ok (.ireturn, 1) := by decide +kernel
theorem dX6_addState_0 : decode cX6_addState 0 = .ok (.aload_n 0, 1) := by decide +kernel
theorem dX6_addState_1 : decode cX6_addState 1 = .ok (.getfield 30, 3) := by decide +kernel
theorem dX6_addState_4 : decode cX6_addState 4 = .ok (.aload_n 0, 1) := by decide +kernel
theorem dX6_addState_5 : decode cX6_addState 5 = .ok (.getfield 49, 3) := by decide +kernel
theorem dX6_addState_8 : decode cX6_addState 8 = .ok (.iload_n 1, 1) := by decide +kernel
theorem dX6_addState_9 : decode cX6_addState 9 = .ok (.iastore, 1) := by decide +kernel
theorem dX6_addState_10 : decode cX6_addState 10 = .ok (.aload_n 0, 1) := by decide +kernel
theorem dX6_addState_11 : decode cX6_addState 11 = .ok (.getfield 33, 3) := by decide +kernel
theorem dX6_addState_14 : decode cX6_addState 14 = .ok (.aload_n 0, 1) := by decide +kernel
theorem dX6_addState_15 : decode cX6_addState 15 = .ok (.getfield 49, 3) := by decide +kernel
theorem dX6_addState_18 : decode cX6_addState 18 = .ok (.iload_n 2, 1) := by decide +kernel
theorem dX6_addState_19 : decode cX6_addState 19 = .ok (.iastore, 1) := by decide +kernel
theorem dX6_addState_20 : decode cX6_addState 20 = .ok (.aload_n 0, 1) := by decide +kernel
theorem dX6_addState_21 : decode cX6_addState 21 = .ok (.getfield 36, 3) := by decide +kernel
theorem dX6_addState_24 : decode cX6_addState 24 = .ok (.aload_n 0, 1) := by decide +kernel
theorem dX6_addState_25 : decode cX6_addState 25 = .ok (.getfield 49, 3) := by decide +kernel
theorem dX6_addState_28 : decode cX6_addState 28 = .ok (.iload_n 3, 1) := by decide +kernel
theorem dX6_addState_29 : decode cX6_addState 29 = .ok (.iastore, 1) := by decide +kernel
theorem dX6_addState_30 : decode cX6_addState 30 = .ok (.aload_n 0, 1) := by decide +kernel
theorem dX6_addState_31 : decode cX6_addState 31 = .ok (.getfield 39, 3) := by decide +kernel
theorem dX6_addState_34 : decode cX6_addState 34 = .ok (.aload_n 0, 1) := by decide +kernel
theorem dX6_addState_35 : decode cX6_addState 35 = .ok (.getfield 49, 3) := by decide +kernel
theorem dX6_addState_38 : decode cX6_addState 38 = .ok (.iload 4, 2) := by decide +kernel
theorem dX6_addState_40 : decode cX6_addState 40 = .ok (.iastore, 1) := by decide +kernel
theorem dX6_addState_41 : decode cX6_addState 41 = .ok (.aload_n 0, 1) := by decide +kernel
theorem dX6_addState_42 : decode cX6_addState 42 = .ok (.dup, 1) := by decide +kernel
theorem dX6_addState_43 : decode cX6_addState 43 = .ok (.getfield 49, 3) := by decide +kernel
theorem dX6_addState_46 : decode cX6_addState 46 = .ok (.iconst 1, 1) := by decide +kernel
theorem dX6_addState_47 : decode cX6_addState 47 = .ok (.iadd, 1) := by decide +kernel
theorem dX6_addState_48 : decode cX6_addState 48 = .ok (.putfield 49, 3) := by decide +kernel
theorem dX6_addState_51 : decode cX6_addState 51 = .ok (.aload_n 0, 1) := by decide +kernel
theorem dX6_addState_52 : decode cX6_addState 52 = .ok (.getfield 49, 3) := by decide +kernel
theorem dX6_addState_55 : decode cX6_addState 55 = .ok (.ireturn, 1) := by decide +kernel
theorem dX6_unitAt_0 : decode cX6_unitAt 0 = .ok (.bipush (-9), 2) := by decide +kernel
theorem dX6_unitAt_2 : decode cX6_unitAt 2 = .ok (.istore 4, 2) := by decide +kernel
theorem dX6_unitAt_4 : decode cX6_unitAt 4 = .ok (.iconst 0, 1) := by decide +kernel
theorem dX6_unitAt_5 : decode cX6_unitAt 5 = .ok (.istore 5, 2) := by decide +kernel
theorem dX6_unitAt_7 : decode cX6_unitAt 7 = .ok (.iconst 0, 1) := by decide +kernel
theorem dX6_unitAt_8 : decode cX6_unitAt 8 = .ok (.istore 6, 2) := by decide +kernel
theorem dX6_unitAt_10 : decode cX6_unitAt 10 = .ok (.iload 6, 2) := by decide +kernel
theorem dX6_unitAt_12 : decode cX6_unitAt 12 = .ok (.aload_n 0, 1) := by decide +kernel
theorem dX6_unitAt_13 : decode cX6_unitAt 13 = .ok (.getfield 46, 3) := by decide +kernel
theorem dX6_unitAt_16 : decode cX6_unitAt 16 = .ok (.if_icmp .ge 86, 3) := by decide +kernel
theorem dX6_unitAt_19 : decode cX6_unitAt 19 = .ok (.aload_n 0, 1) := by decide +kernel
theorem dX6_unitAt_20 : decode cX6_unitAt 20 = .ok (.getfield 9, 3) := by decide +kernel
theorem dX6_unitAt_23 : decode cX6_unitAt 23 = .ok (.iload 6, 2) := by decide +kernel
theorem dX6_unitAt_25 : decode cX6_unitAt 25 = .ok (.iaload, 1) := by decide +kernel
theorem dX6_unitAt_26 : decode cX6_unitAt 26 = .ok (.iload_n 1, 1) := by decide +kernel
theorem dX6_unitAt_27 : decode cX6_unitAt 27 = .ok (.if_icmp .ne 31, 3) := by decide +kernel
theorem dX6_unitAt_30 : decode cX6_unitAt 30 = .ok (.aload_n 0, 1) := by decide +kernel
theorem dX6_unitAt_31 : decode cX6_unitAt 31 = .ok (.getfield 21, 3) := by decide +kernel
theorem dX6_unitAt_34 : decode cX6_unitAt 34 = .ok (.iload 6, 2) := by decide +kernel
theorem dX6_unitAt_36 : decode cX6_unitAt 36 = .ok (.iaload, 1) := by decide +kernel
theorem dX6_unitAt_37 : decode cX6_unitAt 37 = .ok (.iload_n 3, 1) := by decide +kernel
theorem dX6_unitAt_38 : decode cX6_unitAt 38 = .ok (.iadd, 1) := by decide +kernel
theorem dX6_unitAt_39 : decode cX6_unitAt 39 = .ok (.iload_n 2, 1) := by decide +kernel
theorem dX6_unitAt_40 : decode cX6_unitAt 40 = .ok (.if_icmp .gt 18, 3) := by decide +kernel
theorem dX6_unitAt_43 : decode cX6_unitAt 43 = .ok (.aload_n 0, 1) := by decide +kernel
theorem dX6_unitAt_44 : decode cX6_unitAt 44 = .ok (.getfield 18, 3) := by decide +kernel
theorem dX6_unitAt_47 : decode cX6_unitAt 47 = .ok (.iload 6, 2) := by decide +kernel
theorem dX6_unitAt_49 : decode cX6_unitAt 49 = .ok (.iaload, 1) := by decide +kernel
theorem dX6_unitAt_50 : decode cX6_unitAt 50 = .ok (.iload_n 2, 1) := by decide +kernel
theorem dX6_unitAt_51 : decode cX6_unitAt 51 = .ok (.if_icmp .gt 7, 3) := by decide +kernel
theorem dX6_unitAt_54 : decode cX6_unitAt 54 = .ok (.iconst 1, 1) := by decide +kernel
theorem dX6_unitAt_55 : decode cX6_unitAt 55 = .ok (.goto 4, 3) := by decide +kernel
theorem dX6_unitAt_58 : decode cX6_unitAt 58 = .ok (.iconst 0, 1) := by decide +kernel
theorem dX6_unitAt_59 : decode cX6_unitAt 59 = .ok (.istore 7, 2) := by decide +kernel
theorem dX6_unitAt_61 : decode cX6_unitAt 61 = .ok (.iload 7, 2) := by decide +kernel
theorem dX6_unitAt_63 : decode cX6_unitAt 63 = .ok (.ifCond .eq 33, 3) := by decide +kernel
theorem dX6_unitAt_66 : decode cX6_unitAt 66 = .ok (.aload_n 0, 1) := by decide +kernel
theorem dX6_unitAt_67 : decode cX6_unitAt 67 = .ok (.getfield 18, 3) := by decide +kernel
theorem dX6_unitAt_70 : decode cX6_unitAt 70 = .ok (.iload 6, 2) := by decide +kernel
theorem dX6_unitAt_72 : decode cX6_unitAt 72 = .ok (.iaload, 1) := by decide +kernel
theorem dX6_unitAt_73 : decode cX6_unitAt 73 = .ok (.iload 5, 2) := by decide +kernel
theorem dX6_unitAt_75 : decode cX6_unitAt 75 = .ok (.if_icmp .lt 21, 3) := by decide +kernel
theorem dX6_unitAt_78 : decode cX6_unitAt 78 = .ok (.aload_n 0, 1) := by decide +kernel
theorem dX6_unitAt_79 : decode cX6_unitAt 79 = .ok (.getfield 18, 3) := by decide +kernel
theorem dX6_unitAt_82 : decode cX6_unitAt 82 = .ok (.iload 6, 2) := by decide +kernel
theorem dX6_unitAt_84 : decode cX6_unitAt 84 = .ok (.iaload, 1) := by decide +kernel
theorem dX6_unitAt_85 : decode cX6_unitAt 85 = .ok (.istore 5, 2) := by decide +kernel
theorem dX6_unitAt_87 : decode cX6_unitAt 87 = .ok (.aload_n 0, 1) := by decide +kernel
theorem dX6_unitAt_88 : decode cX6_unitAt 88 = .ok (.getfield 15, 3) := by decide +kernel
theorem dX6_unitAt_91 : decode cX6_unitAt 91 = .ok (.iload 6, 2) := by decide +kernel
theorem dX6_unitAt_93 : decode cX6_unitAt 93 = .ok (.iaload, 1) := by decide +kernel
theorem dX6_unitAt_94 : decode cX6_unitAt 94 = .ok (.istore 4, 2) := by decide +kernel
theorem dX6_unitAt_96 : decode cX6_unitAt 96 = .ok (.iinc 6 1, 3) := by decide +kernel
theorem dX6_unitAt_99 : decode cX6_unitAt 99 = .ok (.goto (-89), 3) := by decide +kernel
theorem dX6_unitAt_102 : decode cX6_unitAt 102 = .ok (.iload 4, 2) := by decide +kernel
theorem dX6_unitAt_104 : decode cX6_unitAt 104 = .ok (.ireturn, 1) := by decide +kernel
theorem dX6_lastState_0 : decode cX6_lastState 0 = .ok (.aload_n 0, 1) := by decide +kernel
theorem dX6_lastState_1 : decode cX6_lastState 1 = .ok (.getfield 49, 3) := by decide +kernel
theorem dX6_lastState_4 : decode cX6_lastState 4 = .ok (.iconst 1, 1) := by decide +kernel
theorem dX6_lastState_5 : decode cX6_lastState 5 = .ok (.isub, 1) := by decide +kernel
theorem dX6_lastState_6 : decode cX6_lastState 6 = .ok (.istore 4, 2) := by decide +kernel
theorem dX6_lastState_8 : decode cX6_lastState 8 = .ok (.iload 4, 2) := by decide +kernel
theorem dX6_lastState_10 : decode cX6_lastState 10 = .ok (.ifCond .lt 36, 3) := by decide +kernel
theorem dX6_lastState_13 : decode cX6_lastState 13 = .ok (.aload_n 0, 1) := by decide +kernel
theorem dX6_lastState_14 : decode cX6_lastState 14 = .ok (.getfield 30, 3) := by decide +kernel
theorem dX6_lastState_17 : decode cX6_lastState 17 = .ok (.iload 4, 2) := by decide +kernel
theorem dX6_lastState_19 : decode cX6_lastState 19 = .ok (.iaload, 1) := by decide +kernel
theorem dX6_lastState_20 : decode cX6_lastState 20 = .ok (.iload_n 1, 1) := by decide +kernel
theorem dX6_lastState_21 : decode cX6_lastState 21 = .ok (.if_icmp .ne 19, 3) := by decide +kernel
theorem dX6_lastState_24 : decode cX6_lastState 24 = .ok (.aload_n 0, 1) := by decide +kernel
theorem dX6_lastState_25 : decode cX6_lastState 25 = .ok (.getfield 39, 3) := by decide +kernel
theorem dX6_lastState_28 : decode cX6_lastState 28 = .ok (.iload 4, 2) := by decide +kernel
theorem dX6_lastState_30 : decode cX6_lastState 30 = .ok (.iaload, 1) := by decide +kernel
theorem dX6_lastState_31 : decode cX6_lastState 31 = .ok (.iload_n 3, 1) := by decide +kernel
theorem dX6_lastState_32 : decode cX6_lastState 32 = .ok (.iadd, 1) := by decide +kernel
theorem dX6_lastState_33 : decode cX6_lastState 33 = .ok (.iload_n 2, 1) := by decide +kernel
theorem dX6_lastState_34 : decode cX6_lastState 34 = .ok (.if_icmp .gt 6, 3) := by decide +kernel
theorem dX6_lastState_37 : decode cX6_lastState 37 = .ok (.iload 4, 2) := by decide +kernel
theorem dX6_lastState_39 : decode cX6_lastState 39 = .ok (.ireturn, 1) := by decide +kernel
theorem dX6_lastState_40 : decode cX6_lastState 40 = .ok (.iinc 4 (-1), 3) := by decide +kernel
theorem dX6_lastState_43 : decode cX6_lastState 43 = .ok (.goto (-35), 3) := by decide +kernel
theorem dX6_lastState_46 : decode cX6_lastState 46 = .ok (.iconst (-1), 1) := by decide +kernel
theorem dX6_lastState_47 : decode cX6_lastState 47 = .ok (.ireturn, 1) := by decide +kernel
theorem dX6_stateBy_0 : decode cX6_stateBy 0 = .ok (.aload_n 0, 1) := by decide +kernel
theorem dX6_stateBy_1 : decode cX6_stateBy 1 = .ok (.iload_n 1, 1) := by decide +kernel
theorem dX6_stateBy_2 : decode cX6_stateBy 2 = .ok (.iload_n 2, 1) := by decide +kernel
theorem dX6_stateBy_3 : decode cX6_stateBy 3 = .ok (.iload_n 3, 1) := by decide +kernel
theorem dX6_stateBy_4 : decode cX6_stateBy 4 = .ok (.invokevirtual 52, 3) := by decide +kernel
theorem dX6_stateBy_7 : decode cX6_stateBy 7 = .ok (.istore 4, 2) := by decide +kernel
theorem dX6_stateBy_9 : decode cX6_stateBy 9 = .ok (.iload 4, 2) := by decide +kernel
theorem dX6_stateBy_11 : decode cX6_stateBy 11 = .ok (.ifCond .ge 7, 3) := by decide +kernel
theorem dX6_stateBy_14 : decode cX6_stateBy 14 = .ok (.iconst 0, 1) := by decide +kernel
theorem dX6_stateBy_15 : decode cX6_stateBy 15 = .ok (.goto 10, 3) := by decide +kernel
theorem dX6_stateBy_18 : decode cX6_stateBy 18 = .ok (.aload_n 0, 1) := by decide +kernel
theorem dX6_stateBy_19 : decode cX6_stateBy 19 = .ok (.getfield 33, 3) := by decide +kernel
theorem dX6_stateBy_22 : decode cX6_stateBy 22 = .ok (.iload 4, 2) := by decide +kernel
theorem dX6_stateBy_24 : decode cX6_stateBy 24 = .ok (.iaload, 1) := by decide +kernel
theorem dX6_stateBy_25 : decode cX6_stateBy 25 = .ok (.ireturn, 1) := by decide +kernel
theorem dX6_manIsAt_0 : decode cX6_manIsAt 0 = .ok (.aload_n 0, 1) := by decide +kernel
theorem dX6_manIsAt_1 : decode cX6_manIsAt 1 = .ok (.iload_n 1, 1) := by decide +kernel
theorem dX6_manIsAt_2 : decode cX6_manIsAt 2 = .ok (.iload_n 2, 1) := by decide +kernel
theorem dX6_manIsAt_3 : decode cX6_manIsAt 3 = .ok (.iconst 0, 1) := by decide +kernel
theorem dX6_manIsAt_4 : decode cX6_manIsAt 4 = .ok (.invokevirtual 52, 3) := by decide +kernel
theorem dX6_manIsAt_7 : decode cX6_manIsAt 7 = .ok (.istore_n 3, 1) := by decide +kernel
theorem dX6_manIsAt_8 : decode cX6_manIsAt 8 = .ok (.iload_n 3, 1) := by decide +kernel
theorem dX6_manIsAt_9 : decode cX6_manIsAt 9 = .ok (.ifCond .lt 12, 3) := by decide +kernel
theorem dX6_manIsAt_12 : decode cX6_manIsAt 12 = .ok (.aload_n 0, 1) := by decide +kernel
theorem dX6_manIsAt_13 : decode cX6_manIsAt 13 = .ok (.getfield 33, 3) := by decide +kernel
theorem dX6_manIsAt_16 : decode cX6_manIsAt 16 = .ok (.iload_n 3, 1) := by decide +kernel
theorem dX6_manIsAt_17 : decode cX6_manIsAt 17 = .ok (.iaload, 1) := by decide +kernel
theorem dX6_manIsAt_18 : decode cX6_manIsAt 18 = .ok (.ifCond .ne 16, 3) := by decide +kernel
theorem dX6_manIsAt_21 : decode cX6_manIsAt 21 = .ok (.aload_n 0, 1) := by decide +kernel
theorem dX6_manIsAt_22 : decode cX6_manIsAt 22 = .ok (.aload_n 0, 1) := by decide +kernel
theorem dX6_manIsAt_23 : decode cX6_manIsAt 23 = .ok (.getfield 24, 3) := by decide +kernel
theorem dX6_manIsAt_26 : decode cX6_manIsAt 26 = .ok (.iload_n 1, 1) := by decide +kernel
theorem dX6_manIsAt_27 : decode cX6_manIsAt 27 = .ok (.iaload, 1) := by decide +kernel
theorem dX6_manIsAt_28 : decode cX6_manIsAt 28 = .ok (.iload_n 2, 1) := by decide +kernel
theorem dX6_manIsAt_29 : decode cX6_manIsAt 29 = .ok (.iconst 0, 1) := by decide +kernel
theorem dX6_manIsAt_30 : decode cX6_manIsAt 30 = .ok (.invokevirtual 56, 3) := by decide +kernel
theorem dX6_manIsAt_33 : decode cX6_manIsAt 33 = .ok (.ireturn, 1) := by decide +kernel
theorem dX6_manIsAt_34 : decode cX6_manIsAt 34 = .ok (.aload_n 0, 1) := by decide +kernel
theorem dX6_manIsAt_35 : decode cX6_manIsAt 35 = .ok (.getfield 33, 3) := by decide +kernel
theorem dX6_manIsAt_38 : decode cX6_manIsAt 38 = .ok (.iload_n 3, 1) := by decide +kernel
theorem dX6_manIsAt_39 : decode cX6_manIsAt 39 = .ok (.iaload, 1) := by decide +kernel
theorem dX6_manIsAt_40 : decode cX6_manIsAt 40 = .ok (.iconst 1, 1) := by decide +kernel
theorem dX6_manIsAt_41 : decode cX6_manIsAt 41 = .ok (.if_icmp .ne 12, 3) := by decide +kernel
theorem dX6_manIsAt_44 : decode cX6_manIsAt 44 = .ok (.aload_n 0, 1) := by decide +kernel
theorem dX6_manIsAt_45 : decode cX6_manIsAt 45 = .ok (.getfield 36, 3) := by decide +kernel
theorem dX6_manIsAt_48 : decode cX6_manIsAt 48 = .ok (.iload_n 3, 1) := by decide +kernel
theorem dX6_manIsAt_49 : decode cX6_manIsAt 49 = .ok (.iaload, 1) := by decide +kernel
theorem dX6_manIsAt_50 : decode cX6_manIsAt 50 = .ok (.goto 5, 3) := by decide +kernel
theorem dX6_manIsAt_53 : decode cX6_manIsAt 53 = .ok (.bipush (-9), 2) := by decide +kernel
theorem dX6_manIsAt_55 : decode cX6_manIsAt 55 = .ok (.ireturn, 1) := by decide +kernel
theorem dX6_fitting_0 : decode cX6_fitting 0 = .ok (.iconst 0, 1) := by decide +kernel
theorem dX6_fitting_1 : decode cX6_fitting 1 = .ok (.istore_n 3, 1) := by decide +kernel
theorem dX6_fitting_2 : decode cX6_fitting 2 = .ok (.iconst 0, 1) := by decide +kernel
theorem dX6_fitting_3 : decode cX6_fitting 3 = .ok (.istore 4, 2) := by decide +kernel
theorem dX6_fitting_5 : decode cX6_fitting 5 = .ok (.iload 4, 2) := by decide +kernel
theorem dX6_fitting_7 : decode cX6_fitting 7 = .ok (.aload_n 0, 1) := by decide +kernel
theorem dX6_fitting_8 : decode cX6_fitting 8 = .ok (.getfield 42, 3) := by decide +kernel
theorem dX6_fitting_11 : decode cX6_fitting 11 = .ok (.if_icmp .ge 23, 3) := by decide +kernel
theorem dX6_fitting_14 : decode cX6_fitting 14 = .ok (.aload_n 0, 1) := by decide +kernel
theorem dX6_fitting_15 : decode cX6_fitting 15 = .ok (.iload 4, 2) := by decide +kernel
theorem dX6_fitting_17 : decode cX6_fitting 17 = .ok (.iload_n 1, 1) := by decide +kernel
theorem dX6_fitting_18 : decode cX6_fitting 18 = .ok (.iload_n 2, 1) := by decide +kernel
theorem dX6_fitting_19 : decode cX6_fitting 19 = .ok (.invokevirtual 59, 3) := by decide +kernel
theorem dX6_fitting_22 : decode cX6_fitting 22 = .ok (.ifCond .eq 6, 3) := by decide +kernel
theorem dX6_fitting_25 : decode cX6_fitting 25 = .ok (.iinc 3 1, 3) := by decide +kernel
theorem dX6_fitting_28 : decode cX6_fitting 28 = .ok (.iinc 4 1, 3) := by decide +kernel
theorem dX6_fitting_31 : decode cX6_fitting 31 = .ok (.goto (-26), 3) := by decide +kernel
theorem dX6_fitting_34 : decode cX6_fitting 34 = .ok (.iload_n 3, 1) := by decide +kernel
theorem dX6_fitting_35 : decode cX6_fitting 35 = .ok (.ireturn, 1) := by decide +kernel
theorem dX6_firstFitting_0 : decode cX6_firstFitting 0 = .ok (.iconst 0, 1) := by decide +kernel
theorem dX6_firstFitting_1 : decode cX6_firstFitting 1 = .ok (.istore_n 3, 1) := by decide +kernel
theorem dX6_firstFitting_2 : decode cX6_firstFitting 2 = .ok (.iload_n 3, 1) := by decide +kernel
theorem dX6_firstFitting_3 : decode cX6_firstFitting 3 = .ok (.aload_n 0, 1) := by decide +kernel
theorem dX6_firstFitting_4 : decode cX6_firstFitting 4 = .ok (.getfield 42, 3) := by decide +kernel
theorem dX6_firstFitting_7 : decode cX6_firstFitting 7 = .ok (.if_icmp .ge 21, 3) := by decide +kernel
theorem dX6_firstFitting_10 : decode cX6_firstFitting 10 = .ok (.aload_n 0, 1) := by decide +kernel
theorem dX6_firstFitting_11 : decode cX6_firstFitting 11 = .ok (.iload_n 3, 1) := by decide +kernel
theorem dX6_firstFitting_12 : decode cX6_firstFitting 12 = .ok (.iload_n 1, 1) := by decide +kernel
theorem dX6_firstFitting_13 : decode cX6_firstFitting 13 = .ok (.iload_n 2, 1) := by decide +kernel
theorem dX6_firstFitting_14 : decode cX6_firstFitting 14 = .ok (.invokevirtual 59, 3) := by decide +kernel
theorem dX6_firstFitting_17 : decode cX6_firstFitting 17 = .ok (.ifCond .eq 5, 3) := by decide +kernel
theorem dX6_firstFitting_20 : decode cX6_firstFitting 20 = .ok (.iload_n 3, 1) := by decide +kernel
theorem dX6_firstFitting_21 : decode cX6_firstFitting 21 = .ok (.ireturn, 1) := by decide +kernel
theorem dX6_firstFitting_22 : decode cX6_firstFitting 22 = .ok (.iinc 3 1, 3) := by decide +kernel
theorem dX6_firstFitting_25 : decode cX6_firstFitting 25 = .ok (.goto (-23), 3) := by decide +kernel
theorem dX6_firstFitting_28 : decode cX6_firstFitting 28 = .ok (.bipush (-9), 2) := by decide +kernel
theorem dX6_firstFitting_30 : decode cX6_firstFitting 30 = .ok (.ireturn, 1) := by decide +kernel
theorem dX6_fits_0 : decode cX6_fits 0 = .ok (.iload_n 2, 1) := by decide +kernel
theorem dX6_fits_1 : decode cX6_fits 1 = .ok (.iconst (-1), 1) := by decide +kernel
theorem dX6_fits_2 : decode cX6_fits 2 = .ok (.if_icmp .eq 15, 3) := by decide +kernel
theorem dX6_fits_5 : decode cX6_fits 5 = .ok (.aload_n 0, 1) := by decide +kernel
theorem dX6_fits_6 : decode cX6_fits 6 = .ok (.getfield 24, 3) := by decide +kernel
theorem dX6_fits_9 : decode cX6_fits 9 = .ok (.iload_n 1, 1) := by decide +kernel
theorem dX6_fits_10 : decode cX6_fits 10 = .ok (.iaload, 1) := by decide +kernel
theorem dX6_fits_11 : decode cX6_fits 11 = .ok (.iload_n 2, 1) := by decide +kernel
theorem dX6_fits_12 : decode cX6_fits 12 = .ok (.if_icmp .eq 5, 3) := by decide +kernel
theorem dX6_fits_15 : decode cX6_fits 15 = .ok (.iconst 0, 1) := by decide +kernel
theorem dX6_fits_16 : decode cX6_fits 16 = .ok (.ireturn, 1) := by decide +kernel
theorem dX6_fits_17 : decode cX6_fits 17 = .ok (.aload_n 0, 1) := by decide +kernel
theorem dX6_fits_18 : decode cX6_fits 18 = .ok (.getfield 27, 3) := by decide +kernel
theorem dX6_fits_21 : decode cX6_fits 21 = .ok (.iload_n 1, 1) := by decide +kernel
theorem dX6_fits_22 : decode cX6_fits 22 = .ok (.iaload, 1) := by decide +kernel
theorem dX6_fits_23 : decode cX6_fits 23 = .ok (.istore 4, 2) := by decide +kernel
theorem dX6_fits_25 : decode cX6_fits 25 = .ok (.iload_n 3, 1) := by decide +kernel
theorem dX6_fits_26 : decode cX6_fits 26 = .ok (.istore 5, 2) := by decide +kernel
theorem dX6_fits_28 : decode cX6_fits 28 = .ok (.iconst 0, 1) := by decide +kernel
theorem dX6_fits_29 : decode cX6_fits 29 = .ok (.istore 6, 2) := by decide +kernel
theorem dX6_fits_31 : decode cX6_fits 31 = .ok (.iload 6, 2) := by decide +kernel
theorem dX6_fits_33 : decode cX6_fits 33 = .ok (.iconst 4, 1) := by decide +kernel
theorem dX6_fits_34 : decode cX6_fits 34 = .ok (.if_icmp .ge 49, 3) := by decide +kernel
theorem dX6_fits_37 : decode cX6_fits 37 = .ok (.iload 5, 2) := by decide +kernel
theorem dX6_fits_39 : decode cX6_fits 39 = .ok (.bipush 11, 2) := by decide +kernel
theorem dX6_fits_41 : decode cX6_fits 41 = .ok (.irem, 1) := by decide +kernel
theorem dX6_fits_42 : decode cX6_fits 42 = .ok (.istore 7, 2) := by decide +kernel
theorem dX6_fits_44 : decode cX6_fits 44 = .ok (.iload 7, 2) := by decide +kernel
theorem dX6_fits_46 : decode cX6_fits 46 = .ok (.bipush 10, 2) := by decide +kernel
theorem dX6_fits_48 : decode cX6_fits 48 = .ok (.if_icmp .eq 15, 3) := by decide +kernel
theorem dX6_fits_51 : decode cX6_fits 51 = .ok (.iload 7, 2) := by decide +kernel
theorem dX6_fits_53 : decode cX6_fits 53 = .ok (.iload 4, 2) := by decide +kernel
theorem dX6_fits_55 : decode cX6_fits 55 = .ok (.bipush 10, 2) := by decide +kernel
theorem dX6_fits_57 : decode cX6_fits 57 = .ok (.irem, 1) := by decide +kernel
theorem dX6_fits_58 : decode cX6_fits 58 = .ok (.if_icmp .eq 5, 3) := by decide +kernel
theorem dX6_fits_61 : decode cX6_fits 61 = .ok (.iconst 0, 1) := by decide +kernel
theorem dX6_fits_62 : decode cX6_fits 62 = .ok (.ireturn, 1) := by decide +kernel
theorem dX6_fits_63 : decode cX6_fits 63 = .ok (.iload 5, 2) := by decide +kernel
theorem dX6_fits_65 : decode cX6_fits 65 = .ok (.bipush 11, 2) := by decide +kernel
theorem dX6_fits_67 : decode cX6_fits 67 = .ok (.idiv, 1) := by decide +kernel
theorem dX6_fits_68 : decode cX6_fits 68 = .ok (.istore 5, 2) := by decide +kernel
theorem dX6_fits_70 : decode cX6_fits 70 = .ok (.iload 4, 2) := by decide +kernel
theorem dX6_fits_72 : decode cX6_fits 72 = .ok (.bipush 10, 2) := by decide +kernel
theorem dX6_fits_74 : decode cX6_fits 74 = .ok (.idiv, 1) := by decide +kernel
theorem dX6_fits_75 : decode cX6_fits 75 = .ok (.istore 4, 2) := by decide +kernel
theorem dX6_fits_77 : decode cX6_fits 77 = .ok (.iinc 6 1, 3) := by decide +kernel
theorem dX6_fits_80 : decode cX6_fits 80 = .ok (.goto (-49), 3) := by decide +kernel
theorem dX6_fits_83 : decode cX6_fits 83 = .ok (.iconst 1, 1) := by decide +kernel
theorem dX6_fits_84 : decode cX6_fits 84 = .ok (.ireturn, 1) := by decide +kernel
theorem dX7_init_0 : decode cX7_init 0 = .ok (.aload_n 0, 1) := by decide +kernel
theorem dX7_init_1 : decode cX7_init 1 = .ok (.invokespecial 3, 3) := by decide +kernel
theorem dX7_init_4 : decode cX7_init 4 = .ok (.aload_n 0, 1) := by decide +kernel
theorem dX7_init_5 : decode cX7_init 5 = .ok (.bipush 7, 2) := by decide +kernel
theorem dX7_init_7 : decode cX7_init 7 = .ok (.newarray .int, 2) := by decide +kernel
theorem dX7_init_9 : decode cX7_init 9 = .ok (.putfield 9, 3) := by decide +kernel
theorem dX7_init_12 : decode cX7_init 12 = .ok (.aload_n 0, 1) := by decide +kernel
theorem dX7_init_13 : decode cX7_init 13 = .ok (.bipush 7, 2) := by decide +kernel
theorem dX7_init_15 : decode cX7_init 15 = .ok (.newarray .int, 2) := by decide +kernel
theorem dX7_init_17 : decode cX7_init 17 = .ok (.putfield 15, 3) := by decide +kernel
theorem dX7_init_20 : decode cX7_init 20 = .ok (.aload_n 0, 1) := by decide +kernel
theorem dX7_init_21 : decode cX7_init 21 = .ok (.bipush 7, 2) := by decide +kernel
theorem dX7_init_23 : decode cX7_init 23 = .ok (.newarray .int, 2) := by decide +kernel
theorem dX7_init_25 : decode cX7_init 25 = .ok (.putfield 18, 3) := by decide +kernel
theorem dX7_init_28 : decode cX7_init 28 = .ok (.aload_n 0, 1) := by decide +kernel
theorem dX7_init_29 : decode cX7_init 29 = .ok (.bipush 7, 2) := by decide +kernel
theorem dX7_init_31 : decode cX7_init 31 = .ok (.newarray .int, 2) := by decide +kernel
theorem dX7_init_33 : decode cX7_init 33 = .ok (.putfield 21, 3) := by decide +kernel
theorem dX7_init_36 : decode cX7_init 36 = .ok (.aload_n 0, 1) := by decide +kernel
theorem dX7_init_37 : decode cX7_init 37 = .ok (.bipush 12, 2) := by decide +kernel
theorem dX7_init_39 : decode cX7_init 39 = .ok (.newarray .int, 2) := by decide +kernel
theorem dX7_init_41 : decode cX7_init 41 = .ok (.putfield 24, 3) := by decide +kernel
theorem dX7_init_44 : decode cX7_init 44 = .ok (.return_, 1) := by decide +kernel
theorem dX7_addSack_0 : decode cX7_addSack 0 = .ok (.aload_n 0, 1) := by decide +kernel
theorem dX7_addSack_1 : decode cX7_addSack 1 = .ok (.getfield 9, 3) := by decide +kernel
theorem dX7_addSack_4 : decode cX7_addSack 4 = .ok (.aload_n 0, 1) := by decide +kernel
theorem dX7_addSack_5 : decode cX7_addSack 5 = .ok (.getfield 27, 3) := by decide +kernel
theorem dX7_addSack_8 : decode cX7_addSack 8 = .ok (.iload_n 1, 1) := by decide +kernel
theorem dX7_addSack_9 : decode cX7_addSack 9 = .ok (.iastore, 1) := by decide +kernel
theorem dX7_addSack_10 : decode cX7_addSack 10 = .ok (.aload_n 0, 1) := by decide +kernel
theorem dX7_addSack_11 : decode cX7_addSack 11 = .ok (.getfield 15, 3) := by decide +kernel
theorem dX7_addSack_14 : decode cX7_addSack 14 = .ok (.aload_n 0, 1) := by decide +kernel
theorem dX7_addSack_15 : decode cX7_addSack 15 = .ok (.getfield 27, 3) := by decide +kernel
theorem dX7_addSack_18 : decode cX7_addSack 18 = .ok (.iload_n 2, 1) := by decide +kernel
theorem dX7_addSack_19 : decode cX7_addSack 19 = .ok (.iastore, 1) := by decide +kernel
theorem dX7_addSack_20 : decode cX7_addSack 20 = .ok (.aload_n 0, 1) := by decide +kernel
theorem dX7_addSack_21 : decode cX7_addSack 21 = .ok (.getfield 18, 3) := by decide +kernel
theorem dX7_addSack_24 : decode cX7_addSack 24 = .ok (.aload_n 0, 1) := by decide +kernel
theorem dX7_addSack_25 : decode cX7_addSack 25 = .ok (.getfield 27, 3) := by decide +kernel
theorem dX7_addSack_28 : decode cX7_addSack 28 = .ok (.iload_n 3, 1) := by decide +kernel
theorem dX7_addSack_29 : decode cX7_addSack 29 = .ok (.iastore, 1) := by decide +kernel
theorem dX7_addSack_30 : decode cX7_addSack 30 = .ok (.aload_n 0, 1) := by decide +kernel
theorem dX7_addSack_31 : decode cX7_addSack 31 = .ok (.getfield 27, 3) := by decide +kernel
theorem dX7_addSack_34 : decode cX7_addSack 34 = .ok (.istore 4, 2) := by decide +kernel
theorem dX7_addSack_36 : decode cX7_addSack 36 = .ok (.iload 4, 2) := by decide +kernel
theorem dX7_addSack_38 : decode cX7_addSack 38 = .ok (.ifCond .le 43, 3) := by decide +kernel
theorem dX7_addSack_41 : decode cX7_addSack 41 = .ok (.aload_n 0, 1) := by decide +kernel
theorem dX7_addSack_42 : decode cX7_addSack 42 = .ok (.getfield 15, 3) := by decide +kernel
theorem dX7_addSack_45 : decode cX7_addSack 45 = .ok (.aload_n 0, 1) := by decide +kernel
theorem dX7_addSack_46 : decode cX7_addSack 46 = .ok (.getfield 21, 3) := by decide +kernel
theorem dX7_addSack_49 : decode cX7_addSack 49 = .ok (.iload 4, 2) := by decide +kernel
theorem dX7_addSack_51 : decode cX7_addSack 51 = .ok (.iconst 1, 1) := by decide +kernel
theorem dX7_addSack_52 : decode cX7_addSack 52 = .ok (.isub, 1) := by decide +kernel
theorem dX7_addSack_53 : decode cX7_addSack 53 = .ok (.iaload, 1) := by decide +kernel
theorem dX7_addSack_54 : decode cX7_addSack 54 = .ok (.iaload, 1) := by decide +kernel
theorem dX7_addSack_55 : decode cX7_addSack 55 = .ok (.iload_n 2, 1) := by decide +kernel
theorem dX7_addSack_56 : decode cX7_addSack 56 = .ok (.if_icmp .le 25, 3) := by decide +kernel
theorem dX7_addSack_59 : decode cX7_addSack 59 = .ok (.aload_n 0, 1) := by decide +kernel
theorem dX7_addSack_60 : decode cX7_addSack 60 = .ok (.getfield 21, 3) := by decide +kernel
theorem dX7_addSack_63 : decode cX7_addSack 63 = .ok (.iload 4, 2) := by decide +kernel
theorem dX7_addSack_65 : decode cX7_addSack 65 = .ok (.aload_n 0, 1) := by decide +kernel
theorem dX7_addSack_66 : decode cX7_addSack 66 = .ok (.getfield 21, 3) := by decide +kernel
theorem dX7_addSack_69 : decode cX7_addSack 69 = .ok (.iload 4, 2) := by decide +kernel
theorem dX7_addSack_71 : decode cX7_addSack 71 = .ok (.iconst 1, 1) := by decide +kernel
theorem dX7_addSack_72 : decode cX7_addSack 72 = .ok (.isub, 1) := by decide +kernel
theorem dX7_addSack_73 : decode cX7_addSack 73 = .ok (.iaload, 1) := by decide +kernel
theorem dX7_addSack_74 : decode cX7_addSack 74 = .ok (.iastore, 1) := by decide +kernel
theorem dX7_addSack_75 : decode cX7_addSack 75 = .ok (.iinc 4 (-1), 3) := by decide +kernel
theorem dX7_addSack_78 : decode cX7_addSack 78 = .ok (.goto (-42), 3) := by decide +kernel
theorem dX7_addSack_81 : decode cX7_addSack 81 = .ok (.aload_n 0, 1) := by decide +kernel
theorem dX7_addSack_82 : decode cX7_addSack 82 = .ok (.getfield 21, 3) := by decide +kernel
theorem dX7_addSack_85 : decode cX7_addSack 85 = .ok (.iload 4, 2) := by decide +kernel
theorem dX7_addSack_87 : decode cX7_addSack 87 = .ok (.aload_n 0, 1) := by decide +kernel
theorem dX7_addSack_88 : decode cX7_addSack 88 = .ok (.getfield 27, 3) := by decide +kernel
theorem dX7_addSack_91 : decode cX7_addSack 91 = .ok (.iastore, 1) := by decide +kernel
theorem dX7_addSack_92 : decode cX7_addSack 92 = .ok (.aload_n 0, 1) := by decide +kernel
theorem dX7_addSack_93 : decode cX7_addSack 93 = .ok (.dup, 1) := by decide +kernel
theorem dX7_addSack_94 : decode cX7_addSack 94 = .ok (.getfield 27, 3) := by decide +kernel
theorem dX7_addSack_97 : decode cX7_addSack 97 = .ok (.iconst 1, 1) := by decide +kernel
theorem dX7_addSack_98 : decode cX7_addSack 98 = .ok (.iadd, 1) := by decide +kernel
theorem dX7_addSack_99 : decode cX7_addSack 99 = .ok (.putfield 27, 3) := by decide +kernel
theorem dX7_addSack_102 : decode cX7_addSack 102 = .ok (.aload_n 0, 1) := by decide +kernel
theorem dX7_addSack_103 : decode cX7_addSack 103 = .ok (.getfield 27, 3) := by decide +kernel
theorem dX7_addSack_106 : decode cX7_addSack 106 = .ok (.iconst 1, 1) := by decide +kernel
theorem dX7_addSack_107 : decode cX7_addSack 107 = .ok (.isub, 1) := by decide +kernel
theorem dX7_addSack_108 : decode cX7_addSack 108 = .ok (.ireturn, 1) := by decide +kernel
theorem dX7_addToRow_0 : decode cX7_addToRow 0 = .ok (.aload_n 0, 1) := by decide +kernel
theorem dX7_addToRow_1 : decode cX7_addToRow 1 = .ok (.getfield 24, 3) := by decide +kernel
theorem dX7_addToRow_4 : decode cX7_addToRow 4 = .ok (.aload_n 0, 1) := by decide +kernel
theorem dX7_addToRow_5 : decode cX7_addToRow 5 = .ok (.getfield 31, 3) := by decide +kernel
theorem dX7_addToRow_8 : decode cX7_addToRow 8 = .ok (.iload_n 1, 1) := by decide +kernel
theorem dX7_addToRow_9 : decode cX7_addToRow 9 = .ok (.iastore, 1) := by decide +kernel
theorem dX7_addToRow_10 : decode cX7_addToRow 10 = .ok (.aload_n 0, 1) := by decide +kernel
theorem dX7_addToRow_11 : decode cX7_addToRow 11 = .ok (.dup, 1) := by decide +kernel
theorem dX7_addToRow_12 : decode cX7_addToRow 12 = .ok (.getfield 31, 3) := by decide +kernel
theorem dX7_addToRow_15 : decode cX7_addToRow 15 = .ok (.iconst 1, 1) := by decide +kernel
theorem dX7_addToRow_16 : decode cX7_addToRow 16 = .ok (.iadd, 1) := by decide +kernel
theorem dX7_addToRow_17 : decode cX7_addToRow 17 = .ok (.putfield 31, 3) := by decide +kernel
theorem dX7_addToRow_20 : decode cX7_addToRow 20 = .ok (.aload_n 0, 1) := by decide +kernel
theorem dX7_addToRow_21 : decode cX7_addToRow 21 = .ok (.getfield 31, 3) := by decide +kernel
theorem dX7_addToRow_24 : decode cX7_addToRow 24 = .ok (.ireturn, 1) := by decide +kernel
theorem dX7_bestSet_0 : decode cX7_bestSet 0 = .ok (.iconst 0, 1) := by decide +kernel
theorem dX7_bestSet_1 : decode cX7_bestSet 1 = .ok (.istore_n 1, 1) := by decide +kernel
theorem dX7_bestSet_2 : decode cX7_bestSet 2 = .ok (.iconst 1, 1) := by decide +kernel
theorem dX7_bestSet_3 : decode cX7_bestSet 3 = .ok (.istore_n 2, 1) := by decide +kernel
theorem dX7_bestSet_4 : decode cX7_bestSet 4 = .ok (.iload_n 2, 1) := by decide +kernel
theorem dX7_bestSet_5 : decode cX7_bestSet 5 = .ok (.iconst 1, 1) := by decide +kernel
theorem dX7_bestSet_6 : decode cX7_bestSet 6 = .ok (.aload_n 0, 1) := by decide +kernel
theorem dX7_bestSet_7 : decode cX7_bestSet 7 = .ok (.getfield 27, 3) := by decide +kernel
theorem dX7_bestSet_10 : decode cX7_bestSet 10 = .ok (.ishl, 1) := by decide +kernel
theorem dX7_bestSet_11 : decode cX7_bestSet 11 = .ok (.if_icmp .ge 28, 3) := by decide +kernel
theorem dX7_bestSet_14 : decode cX7_bestSet 14 = .ok (.aload_n 0, 1) := by decide +kernel
theorem dX7_bestSet_15 : decode cX7_bestSet 15 = .ok (.iload_n 2, 1) := by decide +kernel
theorem dX7_bestSet_16 : decode cX7_bestSet 16 = .ok (.invokevirtual 34, 3) := by decide +kernel
theorem dX7_bestSet_19 : decode cX7_bestSet 19 = .ok (.ifCond .eq 14, 3) := by decide +kernel
theorem dX7_bestSet_22 : decode cX7_bestSet 22 = .ok (.aload_n 0, 1) := by decide +kernel
theorem dX7_bestSet_23 : decode cX7_bestSet 23 = .ok (.iload_n 2, 1) := by decide +kernel
theorem dX7_bestSet_24 : decode cX7_bestSet 24 = .ok (.iload_n 1, 1) := by decide +kernel
theorem dX7_bestSet_25 : decode cX7_bestSet 25 = .ok (.invokevirtual 38, 3) := by decide +kernel
theorem dX7_bestSet_28 : decode cX7_bestSet 28 = .ok (.ifCond .eq 5, 3) := by decide +kernel
theorem dX7_bestSet_31 : decode cX7_bestSet 31 = .ok (.iload_n 2, 1) := by decide +kernel
theorem dX7_bestSet_32 : decode cX7_bestSet 32 = .ok (.istore_n 1, 1) := by decide +kernel
theorem dX7_bestSet_33 : decode cX7_bestSet 33 = .ok (.iinc 2 1, 3) := by decide +kernel
theorem dX7_bestSet_36 : decode cX7_bestSet 36 = .ok (.goto (-32), 3) := by decide +kernel
theorem dX7_bestSet_39 : decode cX7_bestSet 39 = .ok (.iload_n 1, 1) := by decide +kernel
theorem dX7_bestSet_40 : decode cX7_bestSet 40 = .ok (.ireturn, 1) := by decide +kernel
theorem dX7_isBetter_0 : decode cX7_isBetter 0 = .ok (.aload_n 0, 1) := by decide +kernel
theorem dX7_isBetter_1 : decode cX7_isBetter 1 = .ok (.iload_n 1, 1) := by decide +kernel
theorem dX7_isBetter_2 : decode cX7_isBetter 2 = .ok (.invokevirtual 42, 3) := by decide +kernel
theorem dX7_isBetter_5 : decode cX7_isBetter 5 = .ok (.aload_n 0, 1) := by decide +kernel
theorem dX7_isBetter_6 : decode cX7_isBetter 6 = .ok (.iload_n 2, 1) := by decide +kernel
theorem dX7_isBetter_7 : decode cX7_isBetter 7 = .ok (.invokevirtual 42, 3) := by decide +kernel
theorem dX7_isBetter_10 : decode cX7_isBetter 10 = .ok (.isub, 1) := by decide +kernel
theorem dX7_isBetter_11 : decode cX7_isBetter 11 = .ok (.istore_n 3, 1) := by decide +kernel
theorem dX7_isBetter_12 : decode cX7_isBetter 12 = .ok (.iload_n 3, 1) := by decide +kernel
theorem dX7_isBetter_13 : decode cX7_isBetter 13 = .ok (.ifCond .gt 20, 3) := by decide +kernel
theorem dX7_isBetter_16 : decode cX7_isBetter 16 = .ok (.iload_n 3, 1) := by decide +kernel
theorem dX7_isBetter_17 : decode cX7_isBetter 17 = .ok (.ifCond .ne 20, 3) := by decide +kernel
theorem dX7_isBetter_20 : decode cX7_isBetter 20 = .ok (.aload_n 0, 1) := by decide +kernel
theorem dX7_isBetter_21 : decode cX7_isBetter 21 = .ok (.iload_n 1, 1) := by decide +kernel
theorem dX7_isBetter_22 : decode cX7_isBetter 22 = .ok (.invokevirtual 46, 3) := by decide +kernel
theorem dX7_isBetter_25 : decode cX7_isBetter 25 = .ok (.aload_n 0, 1) := by decide +kernel
theorem dX7_isBetter_26 : decode cX7_isBetter 26 = .ok (.iload_n 2, 1) := by decide +kernel
theorem dX7_isBetter_27 : decode cX7_isBetter 27 = .ok (.invokevirtual 46, 3) := by decide +kernel
theorem dX7_isBetter_30 : decode cX7_isBetter 30 = .ok (.if_icmp .ge 7, 3) := by decide +kernel
theorem dX7_isBetter_33 : decode cX7_isBetter 33 = .ok (.iconst 1, 1) := by decide +kernel
theorem dX7_isBetter_34 : decode cX7_isBetter 34 = .ok (.goto 4, 3) := by decide +kernel
theorem dX7_isBetter_37 : decode cX7_isBetter 37 = .ok (.iconst 0, 1) := by decide +kernel
theorem dX7_isBetter_38 : decode cX7_isBetter 38 = .ok (.ireturn, 1) := by decide +kernel
theorem dX7_canBeMade_0 : decode cX7_canBeMade 0 = .ok (.iconst 0, 1) := by decide +kernel
theorem dX7_canBeMade_1 : decode cX7_canBeMade 1 = .ok (.istore_n 2, 1) := by decide +kernel
theorem dX7_canBeMade_2 : decode cX7_canBeMade 2 = .ok (.iconst 0, 1) := by decide +kernel
theorem dX7_canBeMade_3 : decode cX7_canBeMade 3 = .ok (.istore_n 3, 1) := by decide +kernel
theorem dX7_canBeMade_4 : decode cX7_canBeMade 4 = .ok (.iload_n 3, 1) := by decide +kernel
theorem dX7_canBeMade_5 : decode cX7_canBeMade 5 = .ok (.aload_n 0, 1) := by decide +kernel
theorem dX7_canBeMade_6 : decode cX7_canBeMade 6 = .ok (.getfield 27, 3) := by decide +kernel
theorem dX7_canBeMade_9 : decode cX7_canBeMade 9 = .ok (.if_icmp .ge 49, 3) := by decide +kernel
theorem dX7_canBeMade_12 : decode cX7_canBeMade 12 = .ok (.aload_n 0, 1) := by decide +kernel
theorem dX7_canBeMade_13 : decode cX7_canBeMade 13 = .ok (.getfield 21, 3) := by decide +kernel
theorem dX7_canBeMade_16 : decode cX7_canBeMade 16 = .ok (.iload_n 3, 1) := by decide +kernel
theorem dX7_canBeMade_17 : decode cX7_canBeMade 17 = .ok (.iaload, 1) := by decide +kernel
theorem dX7_canBeMade_18 : decode cX7_canBeMade 18 = .ok (.istore 4, 2) := by decide +kernel
theorem dX7_canBeMade_20 : decode cX7_canBeMade 20 = .ok (.iload 4, 2) := by decide +kernel
theorem dX7_canBeMade_22 : decode cX7_canBeMade 22 = .ok (.iload_n 1, 1) := by decide +kernel
theorem dX7_canBeMade_23 : decode cX7_canBeMade 23 = .ok (.invokestatic 49, 3) := by decide +kernel
theorem dX7_canBeMade_26 : decode cX7_canBeMade 26 = .ok (.ifCond .eq 26, 3) := by decide +kernel
theorem dX7_canBeMade_29 : decode cX7_canBeMade 29 = .ok (.iload_n 2, 1) := by decide +kernel
theorem dX7_canBeMade_30 : decode cX7_canBeMade 30 = .ok (.aload_n 0, 1) := by decide +kernel
theorem dX7_canBeMade_31 : decode cX7_canBeMade 31 = .ok (.getfield 9, 3) := by decide +kernel
theorem dX7_canBeMade_34 : decode cX7_canBeMade 34 = .ok (.iload 4, 2) := by decide +kernel
theorem dX7_canBeMade_36 : decode cX7_canBeMade 36 = .ok (.iaload, 1) := by decide +kernel
theorem dX7_canBeMade_37 : decode cX7_canBeMade 37 = .ok (.iadd, 1) := by decide +kernel
theorem dX7_canBeMade_38 : decode cX7_canBeMade 38 = .ok (.istore_n 2, 1) := by decide +kernel
theorem dX7_canBeMade_39 : decode cX7_canBeMade 39 = .ok (.iload_n 2, 1) := by decide +kernel
theorem dX7_canBeMade_40 : decode cX7_canBeMade 40 = .ok (.aload_n 0, 1) := by decide +kernel
theorem dX7_canBeMade_41 : decode cX7_canBeMade 41 = .ok (.getfield 15, 3) := by decide +kernel
theorem dX7_canBeMade_44 : decode cX7_canBeMade 44 = .ok (.iload 4, 2) := by decide +kernel
theorem dX7_canBeMade_46 : decode cX7_canBeMade 46 = .ok (.iaload, 1) := by decide +kernel
theorem dX7_canBeMade_47 : decode cX7_canBeMade 47 = .ok (.if_icmp .le 5, 3) := by decide +kernel
theorem dX7_canBeMade_50 : decode cX7_canBeMade 50 = .ok (.iconst 0, 1) := by decide +kernel
theorem dX7_canBeMade_51 : decode cX7_canBeMade 51 = .ok (.ireturn, 1) := by decide +kernel
theorem dX7_canBeMade_52 : decode cX7_canBeMade 52 = .ok (.iinc 3 1, 3) := by decide +kernel
theorem dX7_canBeMade_55 : decode cX7_canBeMade 55 = .ok (.goto (-51), 3) := by decide +kernel
theorem dX7_canBeMade_58 : decode cX7_canBeMade 58 = .ok (.iconst 1, 1) := by decide +kernel
theorem dX7_canBeMade_59 : decode cX7_canBeMade 59 = .ok (.ireturn, 1) := by decide +kernel
theorem dX7_isIn_0 : decode cX7_isIn 0 = .ok (.iload_n 1, 1) := by decide +kernel
theorem dX7_isIn_1 : decode cX7_isIn 1 = .ok (.iload_n 0, 1) := by decide +kernel
theorem dX7_isIn_2 : decode cX7_isIn 2 = .ok (.ishr, 1) := by decide +kernel
theorem dX7_isIn_3 : decode cX7_isIn 3 = .ok (.iconst 1, 1) := by decide +kernel
theorem dX7_isIn_4 : decode cX7_isIn 4 = .ok (.iand, 1) := by decide +kernel
theorem dX7_isIn_5 : decode cX7_isIn 5 = .ok (.iconst 1, 1) := by decide +kernel
theorem dX7_isIn_6 : decode cX7_isIn 6 = .ok (.if_icmp .ne 7, 3) := by decide +kernel
theorem dX7_isIn_9 : decode cX7_isIn 9 = .ok (.iconst 1, 1) := by decide +kernel
theorem dX7_isIn_10 : decode cX7_isIn 10 = .ok (.goto 4, 3) := by decide +kernel
theorem dX7_isIn_13 : decode cX7_isIn 13 = .ok (.iconst 0, 1) := by decide +kernel
theorem dX7_isIn_14 : decode cX7_isIn 14 = .ok (.ireturn, 1) := by decide +kernel
theorem dX7_lettersOf_0 : decode cX7_lettersOf 0 = .ok (.aload_n 0, 1) := by decide +kernel
theorem dX7_lettersOf_1 : decode cX7_lettersOf 1 = .ok (.aload_n 0, 1) := by decide +kernel
theorem dX7_lettersOf_2 : decode cX7_lettersOf 2 = .ok (.getfield 18, 3) := by decide +kernel
theorem dX7_lettersOf_5 : decode cX7_lettersOf 5 = .ok (.iload_n 1, 1) := by decide +kernel
theorem dX7_lettersOf_6 : decode cX7_lettersOf 6 = .ok (.invokevirtual 52, 3) := by decide +kernel
theorem dX7_lettersOf_9 : decode cX7_lettersOf 9 = .ok (.ireturn, 1) := by decide +kernel
theorem dX7_hoursOf_0 : decode cX7_hoursOf 0 = .ok (.aload_n 0, 1) := by decide +kernel
theorem dX7_hoursOf_1 : decode cX7_hoursOf 1 = .ok (.aload_n 0, 1) := by decide +kernel
theorem dX7_hoursOf_2 : decode cX7_hoursOf 2 = .ok (.getfield 9, 3) := by decide +kernel
theorem dX7_hoursOf_5 : decode cX7_hoursOf 5 = .ok (.iload_n 1, 1) := by decide +kernel
theorem dX7_hoursOf_6 : decode cX7_hoursOf 6 = .ok (.invokevirtual 52, 3) := by decide +kernel
theorem dX7_hoursOf_9 : decode cX7_hoursOf 9 = .ok (.ireturn, 1) := by decide +kernel
theorem dX7_sumOf_0 : decode cX7_sumOf 0 = .ok (.iconst 0, 1) := by decide +kernel
theorem dX7_sumOf_1 : decode cX7_sumOf 1 = .ok (.istore_n 3, 1) := by decide +kernel
theorem dX7_sumOf_2 : decode cX7_sumOf 2 = .ok (.iconst 0, 1) := by decide +kernel
theorem dX7_sumOf_3 : decode cX7_sumOf 3 = .ok (.istore 4, 2) := by decide +kernel
theorem dX7_sumOf_5 : decode cX7_sumOf 5 = .ok (.iload 4, 2) := by decide +kernel
theorem dX7_sumOf_7 : decode cX7_sumOf 7 = .ok (.aload_n 0, 1) := by decide +kernel
theorem dX7_sumOf_8 : decode cX7_sumOf 8 = .ok (.getfield 27, 3) := by decide +kernel
theorem dX7_sumOf_11 : decode cX7_sumOf 11 = .ok (.if_icmp .ge 25, 3) := by decide +kernel
theorem dX7_sumOf_14 : decode cX7_sumOf 14 = .ok (.iload 4, 2) := by decide +kernel
theorem dX7_sumOf_16 : decode cX7_sumOf 16 = .ok (.iload_n 2, 1) := by decide +kernel
theorem dX7_sumOf_17 : decode cX7_sumOf 17 = .ok (.invokestatic 49, 3) := by decide +kernel
theorem dX7_sumOf_20 : decode cX7_sumOf 20 = .ok (.ifCond .eq 10, 3) := by decide +kernel
theorem dX7_sumOf_23 : decode cX7_sumOf 23 = .ok (.iload_n 3, 1) := by decide +kernel
theorem dX7_sumOf_24 : decode cX7_sumOf 24 = .ok (.aload_n 1, 1) := by decide +kernel
theorem dX7_sumOf_25 : decode cX7_sumOf 25 = .ok (.iload 4, 2) := by decide +kernel
theorem dX7_sumOf_27 : decode cX7_sumOf 27 = .ok (.iaload, 1) := by decide +kernel
theorem dX7_sumOf_28 : decode cX7_sumOf 28 = .ok (.iadd, 1) := by decide +kernel
theorem dX7_sumOf_29 : decode cX7_sumOf 29 = .ok (.istore_n 3, 1) := by decide +kernel
theorem dX7_sumOf_30 : decode cX7_sumOf 30 = .ok (.iinc 4 1, 3) := by decide +kernel
theorem dX7_sumOf_33 : decode cX7_sumOf 33 = .ok (.goto (-28), 3) := by decide +kernel
theorem dX7_sumOf_36 : decode cX7_sumOf 36 = .ok (.iload_n 3, 1) := by decide +kernel
theorem dX7_sumOf_37 : decode cX7_sumOf 37 = .ok (.ireturn, 1) := by decide +kernel
theorem dX7_rowMade_0 : decode cX7_rowMade 0 = .ok (.iconst 0, 1) := by decide +kernel
theorem dX7_rowMade_1 : decode cX7_rowMade 1 = .ok (.istore_n 1, 1) := by decide +kernel
theorem dX7_rowMade_2 : decode cX7_rowMade 2 = .ok (.iconst 0, 1) := by decide +kernel
theorem dX7_rowMade_3 : decode cX7_rowMade 3 = .ok (.istore_n 2, 1) := by decide +kernel
theorem dX7_rowMade_4 : decode cX7_rowMade 4 = .ok (.iconst 0, 1) := by decide +kernel
theorem dX7_rowMade_5 : decode cX7_rowMade 5 = .ok (.istore_n 3, 1) := by decide +kernel
theorem dX7_rowMade_6 : decode cX7_rowMade 6 = .ok (.iload_n 3, 1) := by decide +kernel
theorem dX7_rowMade_7 : decode cX7_rowMade 7 = .ok (.aload_n 0, 1) := by decide +kernel
theorem dX7_rowMade_8 : decode cX7_rowMade 8 = .ok (.getfield 31, 3) := by decide +kernel
theorem dX7_rowMade_11 : decode cX7_rowMade 11 = .ok (.if_icmp .ge 72, 3) := by decide +kernel
theorem dX7_rowMade_14 : decode cX7_rowMade 14 = .ok (.aload_n 0, 1) := by decide +kernel
theorem dX7_rowMade_15 : decode cX7_rowMade 15 = .ok (.getfield 24, 3) := by decide +kernel
theorem dX7_rowMade_18 : decode cX7_rowMade 18 = .ok (.iload_n 3, 1) := by decide +kernel
theorem dX7_rowMade_19 : decode cX7_rowMade 19 = .ok (.iaload, 1) := by decide +kernel
theorem dX7_rowMade_20 : decode cX7_rowMade 20 = .ok (.istore 4, 2) := by decide +kernel
theorem dX7_rowMade_22 : decode cX7_rowMade 22 = .ok (.iload 4, 2) := by decide +kernel
theorem dX7_rowMade_24 : decode cX7_rowMade 24 = .ok (.ifCond .lt 21, 3) := by decide +kernel
theorem dX7_rowMade_27 : decode cX7_rowMade 27 = .ok (.iload 4, 2) := by decide +kernel
theorem dX7_rowMade_29 : decode cX7_rowMade 29 = .ok (.aload_n 0, 1) := by decide +kernel
theorem dX7_rowMade_30 : decode cX7_rowMade 30 = .ok (.getfield 27, 3) := by decide +kernel
theorem dX7_rowMade_33 : decode cX7_rowMade 33 = .ok (.if_icmp .ge 12, 3) := by decide +kernel
theorem dX7_rowMade_36 : decode cX7_rowMade 36 = .ok (.iload 4, 2) := by decide +kernel
theorem dX7_rowMade_38 : decode cX7_rowMade 38 = .ok (.iload_n 1, 1) := by decide +kernel
theorem dX7_rowMade_39 : decode cX7_rowMade 39 = .ok (.invokestatic 49, 3) := by decide +kernel
theorem dX7_rowMade_42 : decode cX7_rowMade 42 = .ok (.ifCond .eq 5, 3) := by decide +kernel
theorem dX7_rowMade_45 : decode cX7_rowMade 45 = .ok (.iload_n 3, 1) := by decide +kernel
theorem dX7_rowMade_46 : decode cX7_rowMade 46 = .ok (.ireturn, 1) := by decide +kernel
theorem dX7_rowMade_47 : decode cX7_rowMade 47 = .ok (.iload_n 2, 1) := by decide +kernel
theorem dX7_rowMade_48 : decode cX7_rowMade 48 = .ok (.aload_n 0, 1) := by decide +kernel
theorem dX7_rowMade_49 : decode cX7_rowMade 49 = .ok (.getfield 9, 3) := by decide +kernel
theorem dX7_rowMade_52 : decode cX7_rowMade 52 = .ok (.iload 4, 2) := by decide +kernel
theorem dX7_rowMade_54 : decode cX7_rowMade 54 = .ok (.iaload, 1) := by decide +kernel
theorem dX7_rowMade_55 : decode cX7_rowMade 55 = .ok (.iadd, 1) := by decide +kernel
theorem dX7_rowMade_56 : decode cX7_rowMade 56 = .ok (.istore_n 2, 1) := by decide +kernel
theorem dX7_rowMade_57 : decode cX7_rowMade 57 = .ok (.iload_n 2, 1) := by decide +kernel
theorem dX7_rowMade_58 : decode cX7_rowMade 58 = .ok (.aload_n 0, 1) := by decide +kernel
theorem dX7_rowMade_59 : decode cX7_rowMade 59 = .ok (.getfield 15, 3) := by decide +kernel
theorem dX7_rowMade_62 : decode cX7_rowMade 62 = .ok (.iload 4, 2) := by decide +kernel
theorem dX7_rowMade_64 : decode cX7_rowMade 64 = .ok (.iaload, 1) := by decide +kernel
theorem dX7_rowMade_65 : decode cX7_rowMade 65 = .ok (.if_icmp .le 5, 3) := by decide +kernel
theorem dX7_rowMade_68 : decode cX7_rowMade 68 = .ok (.iload_n 3, 1) := by decide +kernel
theorem dX7_rowMade_69 : decode cX7_rowMade 69 = .ok (.ireturn, 1) := by decide +kernel
theorem dX7_rowMade_70 : decode cX7_rowMade 70 = .ok (.iload_n 1, 1) := by decide +kernel
theorem dX7_rowMade_71 : decode cX7_rowMade 71 = .ok (.iconst 1, 1) := by decide +kernel
theorem dX7_rowMade_72 : decode cX7_rowMade 72 = .ok (.iload 4, 2) := by decide +kernel
theorem dX7_rowMade_74 : decode cX7_rowMade 74 = .ok (.ishl, 1) := by decide +kernel
theorem dX7_rowMade_75 : decode cX7_rowMade 75 = .ok (.ior, 1) := by decide +kernel
theorem dX7_rowMade_76 : decode cX7_rowMade 76 = .ok (.istore_n 1, 1) := by decide +kernel
theorem dX7_rowMade_77 : decode cX7_rowMade 77 = .ok (.iinc 3 1, 3) := by decide +kernel
theorem dX7_rowMade_80 : decode cX7_rowMade 80 = .ok (.goto (-74), 3) := by decide +kernel
theorem dX7_rowMade_83 : decode cX7_rowMade 83 = .ok (.aload_n 0, 1) := by decide +kernel
theorem dX7_rowMade_84 : decode cX7_rowMade 84 = .ok (.getfield 31, 3) := by decide +kernel
theorem dX7_rowMade_87 : decode cX7_rowMade 87 = .ok (.ireturn, 1) := by decide +kernel
theorem dX7_rowLetters_0 : decode cX7_rowLetters 0 = .ok (.iconst 0, 1) := by decide +kernel
theorem dX7_rowLetters_1 : decode cX7_rowLetters 1 = .ok (.istore_n 2, 1) := by decide +kernel
theorem dX7_rowLetters_2 : decode cX7_rowLetters 2 = .ok (.iconst 0, 1) := by decide +kernel
theorem dX7_rowLetters_3 : decode cX7_rowLetters 3 = .ok (.istore_n 3, 1) := by decide +kernel
theorem dX7_rowLetters_4 : decode cX7_rowLetters 4 = .ok (.iload_n 3, 1) := by decide +kernel
theorem dX7_rowLetters_5 : decode cX7_rowLetters 5 = .ok (.iload_n 1, 1) := by decide +kernel
theorem dX7_rowLetters_6 : decode cX7_rowLetters 6 = .ok (.if_icmp .ge 23, 3) := by decide +kernel
theorem dX7_rowLetters_9 : decode cX7_rowLetters 9 = .ok (.iload_n 2, 1) := by decide +kernel
theorem dX7_rowLetters_10 : decode cX7_rowLetters 10 = .ok (.aload_n 0, 1) := by decide +kernel
theorem dX7_rowLetters_11 : decode cX7_rowLetters 11 = .ok (.getfield 18, 3) := by decide +kernel
theorem dX7_rowLetters_14 : decode cX7_rowLetters 14 = .ok (.aload_n 0, 1) := by decide +kernel
theorem dX7_rowLetters_15 : decode cX7_rowLetters 15 = .ok (.getfield 24, 3) := by decide +kernel
theorem dX7_rowLetters_18 : decode cX7_rowLetters 18 = .ok (.iload_n 3, 1) := by decide +kernel
theorem dX7_rowLetters_19 : decode cX7_rowLetters 19 = .ok (.iaload, 1) := by decide +kernel
theorem dX7_rowLetters_20 : decode cX7_rowLetters 20 = .ok (.iaload, 1) := by decide +kernel
theorem dX7_rowLetters_21 : decode cX7_rowLetters 21 = .ok (.iadd, 1) := by decide +kernel
theorem dX7_rowLetters_22 : decode cX7_rowLetters 22 = .ok (.istore_n 2, 1) := by decide +kernel
theorem dX7_rowLetters_23 : decode cX7_rowLetters 23 = .ok (.iinc 3 1, 3) := by decide +kernel
theorem dX7_rowLetters_26 : decode cX7_rowLetters 26 = .ok (.goto (-22), 3) := by decide +kernel
theorem dX7_rowLetters_29 : decode cX7_rowLetters 29 = .ok (.iload_n 2, 1) := by decide +kernel
theorem dX7_rowLetters_30 : decode cX7_rowLetters 30 = .ok (.ireturn, 1) := by decide +kernel
theorem dX8_init_0 : decode cX8_init 0 = .ok (.aload_n 0, 1) := by decide +kernel
theorem dX8_init_1 : decode cX8_init 1 = .ok (.invokespecial 1, 3) := by decide +kernel
theorem dX8_init_4 : decode cX8_init 4 = .ok (.aload_n 0, 1) := by decide +kernel
theorem dX8_init_5 : decode cX8_init 5 = .ok (.new 7, 3) := by decide +kernel
theorem dX8_init_8 : decode cX8_init 8 = .ok (.dup, 1) := by decide +kernel
theorem dX8_init_9 : decode cX8_init 9 = .ok (.invokespecial 9, 3) := by decide +kernel
theorem dX8_init_12 : decode cX8_init 12 = .ok (.putfield 10, 3) := by decide +kernel
theorem dX8_init_15 : decode cX8_init 15 = .ok (.aload_n 0, 1) := by decide +kernel
theorem dX8_init_16 : decode cX8_init 16 = .ok (.aload_n 0, 1) := by decide +kernel
theorem dX8_init_17 : decode cX8_init 17 = .ok (.getfield 10, 3) := by decide +kernel
theorem dX8_init_20 : decode cX8_init 20 = .ok (.getfield 16, 3) := by decide +kernel
theorem dX8_init_23 : decode cX8_init 23 = .ok (.putfield 20, 3) := by decide +kernel
theorem dX8_init_26 : decode cX8_init 26 = .ok (.aload_n 0, 1) := by decide +kernel
theorem dX8_init_27 : decode cX8_init 27 = .ok (.aload_n 0, 1) := by decide +kernel
theorem dX8_init_28 : decode cX8_init 28 = .ok (.getfield 10, 3) := by decide +kernel
theorem dX8_init_31 : decode cX8_init 31 = .ok (.getfield 21, 3) := by decide +kernel
theorem dX8_init_34 : decode cX8_init 34 = .ok (.putfield 25, 3) := by decide +kernel
theorem dX8_init_37 : decode cX8_init 37 = .ok (.aload_n 0, 1) := by decide +kernel
theorem dX8_init_38 : decode cX8_init 38 = .ok (.aload_n 0, 1) := by decide +kernel
theorem dX8_init_39 : decode cX8_init 39 = .ok (.getfield 10, 3) := by decide +kernel
theorem dX8_init_42 : decode cX8_init 42 = .ok (.getfield 26, 3) := by decide +kernel
theorem dX8_init_45 : decode cX8_init 45 = .ok (.putfield 30, 3) := by decide +kernel
theorem dX8_init_48 : decode cX8_init 48 = .ok (.aload_n 0, 1) := by decide +kernel
theorem dX8_init_49 : decode cX8_init 49 = .ok (.aload_n 0, 1) := by decide +kernel
theorem dX8_init_50 : decode cX8_init 50 = .ok (.getfield 10, 3) := by decide +kernel
theorem dX8_init_53 : decode cX8_init 53 = .ok (.getfield 31, 3) := by decide +kernel
theorem dX8_init_56 : decode cX8_init 56 = .ok (.putfield 35, 3) := by decide +kernel
theorem dX8_init_59 : decode cX8_init 59 = .ok (.aload_n 0, 1) := by decide +kernel
theorem dX8_init_60 : decode cX8_init 60 = .ok (.new 36, 3) := by decide +kernel
theorem dX8_init_63 : decode cX8_init 63 = .ok (.dup, 1) := by decide +kernel
theorem dX8_init_64 : decode cX8_init 64 = .ok (.sipush 2400, 3) := by decide +kernel
theorem dX8_init_67 : decode cX8_init 67 = .ok (.invokespecial 38, 3) := by decide +kernel
theorem dX8_init_70 : decode cX8_init 70 = .ok (.putfield 41, 3) := by decide +kernel
theorem dX8_init_73 : decode cX8_init 73 = .ok (.aload_n 0, 1) := by decide +kernel
theorem dX8_init_74 : decode cX8_init 74 = .ok (.new 36, 3) := by decide +kernel
theorem dX8_init_77 : decode cX8_init 77 = .ok (.dup, 1) := by decide +kernel
theorem dX8_init_78 : decode cX8_init 78 = .ok (.iconst 0, 1) := by decide +kernel
theorem dX8_init_79 : decode cX8_init 79 = .ok (.invokespecial 38, 3) := by decide +kernel
theorem dX8_init_82 : decode cX8_init 82 = .ok (.putfield 45, 3) := by decide +kernel
theorem dX8_init_85 : decode cX8_init 85 = .ok (.aload_n 0, 1) := by decide +kernel
theorem dX8_init_86 : decode cX8_init 86 = .ok (.new 48, 3) := by decide +kernel
theorem dX8_init_89 : decode cX8_init 89 = .ok (.dup, 1) := by decide +kernel
theorem dX8_init_90 : decode cX8_init 90 = .ok (.invokespecial 50, 3) := by decide +kernel
theorem dX8_init_93 : decode cX8_init 93 = .ok (.putfield 51, 3) := by decide +kernel
theorem dX8_init_96 : decode cX8_init 96 = .ok (.aload_n 0, 1) := by decide +kernel
theorem dX8_init_97 : decode cX8_init 97 = .ok (.bipush 7, 2) := by decide +kernel
theorem dX8_init_99 : decode cX8_init 99 = .ok (.newarray .int, 2) := by decide +kernel
theorem dX8_init_101 : decode cX8_init 101 = .ok (.putfield 55, 3) := by decide +kernel
theorem dX8_init_104 : decode cX8_init 104 = .ok (.return_, 1) := by decide +kernel
theorem dX8_office_0 : decode cX8_office 0 = .ok (.iload_n 1, 1) := by decide +kernel
theorem dX8_office_1 : decode cX8_office 1 = .ok (.ifCond .ge 10, 3) := by decide +kernel
theorem dX8_office_4 : decode cX8_office 4 = .ok (.aload_n 0, 1) := by decide +kernel
theorem dX8_office_5 : decode cX8_office 5 = .ok (.bipush (-4), 2) := by decide +kernel
theorem dX8_office_7 : decode cX8_office 7 = .ok (.invokevirtual 59, 3) := by decide +kernel
theorem dX8_office_10 : decode cX8_office 10 = .ok (.ireturn, 1) := by decide +kernel
theorem dX8_office_11 : decode cX8_office 11 = .ok (.iload_n 1, 1) := by decide +kernel
theorem dX8_office_12 : decode cX8_office 12 = .ok (.bipush 99, 2) := by decide +kernel
theorem dX8_office_14 : decode cX8_office 14 = .ok (.if_icmp .gt 15, 3) := by decide +kernel
theorem dX8_office_17 : decode cX8_office 17 = .ok (.aload_n 0, 1) := by decide +kernel
theorem dX8_office_18 : decode cX8_office 18 = .ok (.getfield 20, 3) := by decide +kernel
theorem dX8_office_21 : decode cX8_office 21 = .ok (.getfield 63, 3) := by decide +kernel
theorem dX8_office_24 : decode cX8_office 24 = .ok (.bipush 12, 2) := by decide +kernel
theorem dX8_office_26 : decode cX8_office 26 = .ok (.if_icmp .lt 10, 3) := by decide +kernel
theorem dX8_office_29 : decode cX8_office 29 = .ok (.aload_n 0, 1) := by decide +kernel
theorem dX8_office_30 : decode cX8_office 30 = .ok (.bipush (-6), 2) := by decide +kernel
theorem dX8_office_32 : decode cX8_office 32 = .ok (.invokevirtual 59, 3) := by decide +kernel
theorem dX8_office_35 : decode cX8_office 35 = .ok (.ireturn, 1) := by decide +kernel
theorem dX8_office_36 : decode cX8_office 36 = .ok (.aload_n 0, 1) := by decide +kernel
theorem dX8_office_37 : decode cX8_office 37 = .ok (.getfield 20, 3) := by decide +kernel
theorem dX8_office_40 : decode cX8_office 40 = .ok (.iload_n 1, 1) := by decide +kernel
theorem dX8_office_41 : decode cX8_office 41 = .ok (.iload_n 2, 1) := by decide +kernel
theorem dX8_office_42 : decode cX8_office 42 = .ok (.invokevirtual 69, 3) := by decide +kernel
theorem dX8_office_45 : decode cX8_office 45 = .ok (.ireturn, 1) := by decide +kernel
theorem dX8_staff_0 : decode cX8_staff 0 = .ok (.aload_n 0, 1) := by decide +kernel
theorem dX8_staff_1 : decode cX8_staff 1 = .ok (.getfield 20, 3) := by decide +kernel
theorem dX8_staff_4 : decode cX8_staff 4 = .ok (.iload_n 1, 1) := by decide +kernel
theorem dX8_staff_5 : decode cX8_staff 5 = .ok (.invokevirtual 73, 3) := by decide +kernel
theorem dX8_staff_8 : decode cX8_staff 8 = .ok (.ifCond .eq 13, 3) := by decide +kernel
theorem dX8_staff_11 : decode cX8_staff 11 = .ok (.iload_n 2, 1) := by decide +kernel
theorem dX8_staff_12 : decode cX8_staff 12 = .ok (.iconst 0, 1) := by decide +kernel
theorem dX8_staff_13 : decode cX8_staff 13 = .ok (.bipush 99, 2) := by decide +kernel
theorem dX8_staff_15 : decode cX8_staff 15 = .ok (.invokestatic 77, 3) := by decide +kernel
theorem dX8_staff_18 : decode cX8_staff 18 = .ok (.goto 4, 3) := by decide +kernel
theorem dX8_staff_21 : decode cX8_staff 21 = .ok (.iconst (-1), 1) := by decide +kernel
theorem dX8_staff_22 : decode cX8_staff 22 = .ok (.istore 4, 2) := by decide +kernel
theorem dX8_staff_24 : decode cX8_staff 24 = .ok (.iload 4, 2) := by decide +kernel
theorem dX8_staff_26 : decode cX8_staff 26 = .ok (.ifCond .ge 12, 3) := by decide +kernel
theorem dX8_staff_29 : decode cX8_staff 29 = .ok (.aload_n 0, 1) := by decide +kernel
theorem dX8_staff_30 : decode cX8_staff 30 = .ok (.iload 4, 2) := by decide +kernel
theorem dX8_staff_32 : decode cX8_staff 32 = .ok (.invokevirtual 59, 3) := by decide +kernel
theorem dX8_staff_35 : decode cX8_staff 35 = .ok (.goto 13, 3) := by decide +kernel
theorem dX8_staff_38 : decode cX8_staff 38 = .ok (.aload_n 0, 1) := by decide +kernel
theorem dX8_staff_39 : decode cX8_staff 39 = .ok (.getfield 20, 3) := by decide +kernel
theorem dX8_staff_42 : decode cX8_staff 42 = .ok (.iload_n 1, 1) := by decide +kernel
theorem dX8_staff_43 : decode cX8_staff 43 = .ok (.iload_n 2, 1) := by decide +kernel
theorem dX8_staff_44 : decode cX8_staff 44 = .ok (.iload_n 3, 1) := by decide +kernel
theorem dX8_staff_45 : decode cX8_staff 45 = .ok (.invokevirtual 81, 3) := by decide +kernel
theorem dX8_staff_48 : decode cX8_staff 48 = .ok (.ireturn, 1) := by decide +kernel
theorem dX8_way_0 : decode cX8_way 0 = .ok (.aload_n 0, 1) := by decide +kernel
theorem dX8_way_1 : decode cX8_way 1 = .ok (.getfield 20, 3) := by decide +kernel
theorem dX8_way_4 : decode cX8_way 4 = .ok (.iload_n 1, 1) := by decide +kernel
theorem dX8_way_5 : decode cX8_way 5 = .ok (.invokevirtual 73, 3) := by decide +kernel
theorem dX8_way_8 : decode cX8_way 8 = .ok (.ifCond .eq 19, 3) := by decide +kernel
theorem dX8_way_11 : decode cX8_way 11 = .ok (.aload_n 0, 1) := by decide +kernel
theorem dX8_way_12 : decode cX8_way 12 = .ok (.getfield 20, 3) := by decide +kernel
theorem dX8_way_15 : decode cX8_way 15 = .ok (.iload_n 2, 1) := by decide +kernel
theorem dX8_way_16 : decode cX8_way 16 = .ok (.invokevirtual 73, 3) := by decide +kernel
theorem dX8_way_19 : decode cX8_way 19 = .ok (.ifCond .eq 8, 3) := by decide +kernel
theorem dX8_way_22 : decode cX8_way 22 = .ok (.iload_n 1, 1) := by decide +kernel
theorem dX8_way_23 : decode cX8_way 23 = .ok (.iload_n 2, 1) := by decide +kernel
theorem dX8_way_24 : decode cX8_way 24 = .ok (.if_icmp .ne 9, 3) := by decide +kernel
theorem dX8_way_27 : decode cX8_way 27 = .ok (.aload_n 0, 1) := by decide +kernel
theorem dX8_way_28 : decode cX8_way 28 = .ok (.iconst (-1), 1) := by decide +kernel
theorem dX8_way_29 : decode cX8_way 29 = .ok (.invokevirtual 59, 3) := by decide +kernel
theorem dX8_way_32 : decode cX8_way 32 = .ok (.ireturn, 1) := by decide +kernel
theorem dX8_way_33 : decode cX8_way 33 = .ok (.iload_n 3, 1) := by decide +kernel
theorem dX8_way_34 : decode cX8_way 34 = .ok (.iconst 1, 1) := by decide +kernel
theorem dX8_way_35 : decode cX8_way 35 = .ok (.if_icmp .lt 14, 3) := by decide +kernel
theorem dX8_way_38 : decode cX8_way 38 = .ok (.iload 4, 2) := by decide +kernel
theorem dX8_way_40 : decode cX8_way 40 = .ok (.ifCond .lt 9, 3) := by decide +kernel
theorem dX8_way_43 : decode cX8_way 43 = .ok (.iload 5, 2) := by decide +kernel
theorem dX8_way_45 : decode cX8_way 45 = .ok (.iconst 1, 1) := by decide +kernel
theorem dX8_way_46 : decode cX8_way 46 = .ok (.if_icmp .ge 10, 3) := by decide +kernel
theorem dX8_way_49 : decode cX8_way 49 = .ok (.aload_n 0, 1) := by decide +kernel
theorem dX8_way_50 : decode cX8_way 50 = .ok (.bipush (-4), 2) := by decide +kernel
theorem dX8_way_52 : decode cX8_way 52 = .ok (.invokevirtual 59, 3) := by decide +kernel
theorem dX8_way_55 : decode cX8_way 55 = .ok (.ireturn, 1) := by decide +kernel
theorem dX8_way_56 : decode cX8_way 56 = .ok (.iload_n 3, 1) := by decide +kernel
theorem dX8_way_57 : decode cX8_way 57 = .ok (.bipush 48, 2) := by decide +kernel
theorem dX8_way_59 : decode cX8_way 59 = .ok (.if_icmp .gt 30, 3) := by decide +kernel
theorem dX8_way_62 : decode cX8_way 62 = .ok (.iload 4, 2) := by decide +kernel
theorem dX8_way_64 : decode cX8_way 64 = .ok (.sipush 2000, 3) := by decide +kernel
theorem dX8_way_67 : decode cX8_way 67 = .ok (.if_icmp .gt 22, 3) := by decide +kernel
theorem dX8_way_70 : decode cX8_way 70 = .ok (.iload 5, 2) := by decide +kernel
theorem dX8_way_72 : decode cX8_way 72 = .ok (.bipush 48, 2) := by decide +kernel
theorem dX8_way_74 : decode cX8_way 74 = .ok (.if_icmp .gt 15, 3) := by decide +kernel
theorem dX8_way_77 : decode cX8_way 77 = .ok (.aload_n 0, 1) := by decide +kernel
theorem dX8_way_78 : decode cX8_way 78 = .ok (.getfield 20, 3) := by decide +kernel
theorem dX8_way_81 : decode cX8_way 81 = .ok (.getfield 85, 3) := by decide +kernel
theorem dX8_way_84 : decode cX8_way 84 = .ok (.bipush 24, 2) := by decide +kernel
theorem dX8_way_86 : decode cX8_way 86 = .ok (.if_icmp .lt 10, 3) := by decide +kernel
theorem dX8_way_89 : decode cX8_way 89 = .ok (.aload_n 0, 1) := by decide +kernel
theorem dX8_way_90 : decode cX8_way 90 = .ok (.bipush (-6), 2) := by decide +kernel
theorem dX8_way_92 : decode cX8_way 92 = .ok (.invokevirtual 59, 3) := by decide +kernel
theorem dX8_way_95 : decode cX8_way 95 = .ok (.ireturn, 1) := by decide +kernel
theorem dX8_way_96 : decode cX8_way 96 = .ok (.aload_n 0, 1) := by decide +kernel
theorem dX8_way_97 : decode cX8_way 97 = .ok (.getfield 20, 3) := by decide +kernel
theorem dX8_way_100 : decode cX8_way 100 = .ok (.iload_n 1, 1) := by decide +kernel
theorem dX8_way_101 : decode cX8_way 101 = .ok (.iload_n 2, 1) := by decide +kernel
theorem dX8_way_102 : decode cX8_way 102 = .ok (.iload_n 3, 1) := by decide +kernel
theorem dX8_way_103 : decode cX8_way 103 = .ok (.iload 4, 2) := by decide +kernel
theorem dX8_way_105 : decode cX8_way 105 = .ok (.iload 5, 2) := by decide +kernel
theorem dX8_way_107 : decode cX8_way 107 = .ok (.invokevirtual 88, 3) := by decide +kernel
theorem dX8_way_110 : decode cX8_way 110 = .ok (.ireturn, 1) := by decide +kernel
theorem dX8_shut_0 : decode cX8_shut 0 = .ok (.aload_n 0, 1) := by decide +kernel
theorem dX8_shut_1 : decode cX8_shut 1 = .ok (.getfield 20, 3) := by decide +kernel
theorem dX8_shut_4 : decode cX8_shut 4 = .ok (.iload_n 1, 1) := by decide +kernel
theorem dX8_shut_5 : decode cX8_shut 5 = .ok (.invokevirtual 92, 3) := by decide +kernel
theorem dX8_shut_8 : decode cX8_shut 8 = .ok (.ifCond .ne 9, 3) := by decide +kernel
theorem dX8_shut_11 : decode cX8_shut 11 = .ok (.aload_n 0, 1) := by decide +kernel
theorem dX8_shut_12 : decode cX8_shut 12 = .ok (.iconst (-1), 1) := by decide +kernel
theorem dX8_shut_13 : decode cX8_shut 13 = .ok (.invokevirtual 59, 3) := by decide +kernel
theorem dX8_shut_16 : decode cX8_shut 16 = .ok (.ireturn, 1) := by decide +kernel
theorem dX8_shut_17 : decode cX8_shut 17 = .ok (.iload_n 2, 1) := by decide +kernel
theorem dX8_shut_18 : decode cX8_shut 18 = .ok (.aload_n 0, 1) := by decide +kernel
theorem dX8_shut_19 : decode cX8_shut 19 = .ok (.getfield 95, 3) := by decide +kernel
theorem dX8_shut_22 : decode cX8_shut 22 = .ok (.if_icmp .lt 8, 3) := by decide +kernel
theorem dX8_shut_25 : decode cX8_shut 25 = .ok (.iload_n 3, 1) := by decide +kernel
theorem dX8_shut_26 : decode cX8_shut 26 = .ok (.iload_n 2, 1) := by decide +kernel
theorem dX8_shut_27 : decode cX8_shut 27 = .ok (.if_icmp .ge 10, 3) := by decide +kernel
theorem dX8_shut_30 : decode cX8_shut 30 = .ok (.aload_n 0, 1) := by decide +kernel
theorem dX8_shut_31 : decode cX8_shut 31 = .ok (.bipush (-4), 2) := by decide +kernel
theorem dX8_shut_33 : decode cX8_shut 33 = .ok (.invokevirtual 59, 3) := by decide +kernel
theorem dX8_shut_36 : decode cX8_shut 36 = .ok (.ireturn, 1) := by decide +kernel
theorem dX8_shut_37 : decode cX8_shut 37 = .ok (.iload_n 3, 1) := by decide +kernel
theorem dX8_shut_38 : decode cX8_shut 38 = .ok (.sipush 2000, 3) := by decide +kernel
theorem dX8_shut_41 : decode cX8_shut 41 = .ok (.if_icmp .gt 15, 3) := by decide +kernel
theorem dX8_shut_44 : decode cX8_shut 44 = .ok (.aload_n 0, 1) := by decide +kernel
theorem dX8_shut_45 : decode cX8_shut 45 = .ok (.getfield 20, 3) := by decide +kernel
theorem dX8_shut_48 : decode cX8_shut 48 = .ok (.getfield 98, 3) := by decide +kernel
theorem dX8_shut_51 : decode cX8_shut 51 = .ok (.bipush 40, 2) := by decide +kernel
theorem dX8_shut_53 : decode cX8_shut 53 = .ok (.if_icmp .lt 10, 3) := by decide +kernel
theorem dX8_shut_56 : decode cX8_shut 56 = .ok (.aload_n 0, 1) := by decide +kernel
theorem dX8_shut_57 : decode cX8_shut 57 = .ok (.bipush (-6), 2) := by decide +kernel
theorem dX8_shut_59 : decode cX8_shut 59 = .ok (.invokevirtual 59, 3) := by decide +kernel
theorem dX8_shut_62 : decode cX8_shut 62 = .ok (.ireturn, 1) := by decide +kernel
theorem dX8_shut_63 : decode cX8_shut 63 = .ok (.aload_n 0, 1) := by decide +kernel
theorem dX8_shut_64 : decode cX8_shut 64 = .ok (.getfield 20, 3) := by decide +kernel
theorem dX8_shut_67 : decode cX8_shut 67 = .ok (.iload_n 1, 1) := by decide +kernel
theorem dX8_shut_68 : decode cX8_shut 68 = .ok (.iload_n 2, 1) := by decide +kernel
theorem dX8_shut_69 : decode cX8_shut 69 = .ok (.iload_n 3, 1) := by decide +kernel
theorem dX8_shut_70 : decode cX8_shut 70 = .ok (.invokevirtual 101, 3) := by decide +kernel
theorem dX8_shut_73 : decode cX8_shut 73 = .ok (.ireturn, 1) := by decide +kernel
theorem dX8_far_0 : decode cX8_far 0 = .ok (.aload_n 0, 1) := by decide +kernel
theorem dX8_far_1 : decode cX8_far 1 = .ok (.getfield 20, 3) := by decide +kernel
