theorem dX9_keeps_92 : decode cX9_keeps 92 = .ok (.baload, 1) := by decide +kernel
theorem dX9_keeps_93 : decode cX9_keeps 93 = .ok (.bastore, 1) := by decide +kernel
theorem dX9_keeps_94 : decode cX9_keeps 94 = .ok (.iinc 1 1, 3) := by decide +kernel
theorem dX9_keeps_97 : decode cX9_keeps 97 = .ok (.goto (-95), 3) := by decide +kernel
theorem dX9_keeps_100 : decode cX9_keeps 100 = .ok (.return_, 1) := by decide +kernel
theorem dX9_putsBack_0 : decode cX9_putsBack 0 = .ok (.iconst 0, 1) := by decide +kernel
theorem dX9_putsBack_1 : decode cX9_putsBack 1 = .ok (.istore_n 1, 1) := by decide +kernel
theorem dX9_putsBack_2 : decode cX9_putsBack 2 = .ok (.iload_n 1, 1) := by decide +kernel
theorem dX9_putsBack_3 : decode cX9_putsBack 3 = .ok (.aload_n 0, 1) := by decide +kernel
theorem dX9_putsBack_4 : decode cX9_putsBack 4 = .ok (.getfield 259, 3) := by decide +kernel
theorem dX9_putsBack_7 : decode cX9_putsBack 7 = .ok (.if_icmp .ge 93, 3) := by decide +kernel
theorem dX9_putsBack_10 : decode cX9_putsBack 10 = .ok (.aload_n 0, 1) := by decide +kernel
theorem dX9_putsBack_11 : decode cX9_putsBack 11 = .ok (.getfield 92, 3) := by decide +kernel
theorem dX9_putsBack_14 : decode cX9_putsBack 14 = .ok (.iload_n 1, 1) := by decide +kernel
theorem dX9_putsBack_15 : decode cX9_putsBack 15 = .ok (.aload_n 0, 1) := by decide +kernel
theorem dX9_putsBack_16 : decode cX9_putsBack 16 = .ok (.getfield 150, 3) := by decide +kernel
theorem dX9_putsBack_19 : decode cX9_putsBack 19 = .ok (.iload_n 1, 1) := by decide +kernel
theorem dX9_putsBack_20 : decode cX9_putsBack 20 = .ok (.iaload, 1) := by decide +kernel
theorem dX9_putsBack_21 : decode cX9_putsBack 21 = .ok (.iastore, 1) := by decide +kernel
theorem dX9_putsBack_22 : decode cX9_putsBack 22 = .ok (.aload_n 0, 1) := by decide +kernel
theorem dX9_putsBack_23 : decode cX9_putsBack 23 = .ok (.getfield 95, 3) := by decide +kernel
theorem dX9_putsBack_26 : decode cX9_putsBack 26 = .ok (.iload_n 1, 1) := by decide +kernel
theorem dX9_putsBack_27 : decode cX9_putsBack 27 = .ok (.aload_n 0, 1) := by decide +kernel
theorem dX9_putsBack_28 : decode cX9_putsBack 28 = .ok (.getfield 153, 3) := by decide +kernel
theorem dX9_putsBack_31 : decode cX9_putsBack 31 = .ok (.iload_n 1, 1) := by decide +kernel
theorem dX9_putsBack_32 : decode cX9_putsBack 32 = .ok (.iaload, 1) := by decide +kernel
theorem dX9_putsBack_33 : decode cX9_putsBack 33 = .ok (.iastore, 1) := by decide +kernel
theorem dX9_putsBack_34 : decode cX9_putsBack 34 = .ok (.aload_n 0, 1) := by decide +kernel
theorem dX9_putsBack_35 : decode cX9_putsBack 35 = .ok (.getfield 98, 3) := by decide +kernel
theorem dX9_putsBack_38 : decode cX9_putsBack 38 = .ok (.iload_n 1, 1) := by decide +kernel
theorem dX9_putsBack_39 : decode cX9_putsBack 39 = .ok (.aload_n 0, 1) := by decide +kernel
theorem dX9_putsBack_40 : decode cX9_putsBack 40 = .ok (.getfield 156, 3) := by decide +kernel
theorem dX9_putsBack_43 : decode cX9_putsBack 43 = .ok (.iload_n 1, 1) := by decide +kernel
theorem dX9_putsBack_44 : decode cX9_putsBack 44 = .ok (.iaload, 1) := by decide +kernel
theorem dX9_putsBack_45 : decode cX9_putsBack 45 = .ok (.iastore, 1) := by decide +kernel
theorem dX9_putsBack_46 : decode cX9_putsBack 46 = .ok (.aload_n 0, 1) := by decide +kernel
theorem dX9_putsBack_47 : decode cX9_putsBack 47 = .ok (.getfield 101, 3) := by decide +kernel
theorem dX9_putsBack_50 : decode cX9_putsBack 50 = .ok (.iload_n 1, 1) := by decide +kernel
theorem dX9_putsBack_51 : decode cX9_putsBack 51 = .ok (.aload_n 0, 1) := by decide +kernel
theorem dX9_putsBack_52 : decode cX9_putsBack 52 = .ok (.getfield 159, 3) := by decide +kernel
theorem dX9_putsBack_55 : decode cX9_putsBack 55 = .ok (.iload_n 1, 1) := by decide +kernel
theorem dX9_putsBack_56 : decode cX9_putsBack 56 = .ok (.iaload, 1) := by decide +kernel
theorem dX9_putsBack_57 : decode cX9_putsBack 57 = .ok (.iastore, 1) := by decide +kernel
theorem dX9_putsBack_58 : decode cX9_putsBack 58 = .ok (.aload_n 0, 1) := by decide +kernel
theorem dX9_putsBack_59 : decode cX9_putsBack 59 = .ok (.getfield 104, 3) := by decide +kernel
theorem dX9_putsBack_62 : decode cX9_putsBack 62 = .ok (.iload_n 1, 1) := by decide +kernel
theorem dX9_putsBack_63 : decode cX9_putsBack 63 = .ok (.aload_n 0, 1) := by decide +kernel
theorem dX9_putsBack_64 : decode cX9_putsBack 64 = .ok (.getfield 162, 3) := by decide +kernel
theorem dX9_putsBack_67 : decode cX9_putsBack 67 = .ok (.iload_n 1, 1) := by decide +kernel
theorem dX9_putsBack_68 : decode cX9_putsBack 68 = .ok (.iaload, 1) := by decide +kernel
theorem dX9_putsBack_69 : decode cX9_putsBack 69 = .ok (.iastore, 1) := by decide +kernel
theorem dX9_putsBack_70 : decode cX9_putsBack 70 = .ok (.aload_n 0, 1) := by decide +kernel
theorem dX9_putsBack_71 : decode cX9_putsBack 71 = .ok (.getfield 110, 3) := by decide +kernel
theorem dX9_putsBack_74 : decode cX9_putsBack 74 = .ok (.iload_n 1, 1) := by decide +kernel
theorem dX9_putsBack_75 : decode cX9_putsBack 75 = .ok (.aload_n 0, 1) := by decide +kernel
theorem dX9_putsBack_76 : decode cX9_putsBack 76 = .ok (.getfield 165, 3) := by decide +kernel
theorem dX9_putsBack_79 : decode cX9_putsBack 79 = .ok (.iload_n 1, 1) := by decide +kernel
theorem dX9_putsBack_80 : decode cX9_putsBack 80 = .ok (.baload, 1) := by decide +kernel
theorem dX9_putsBack_81 : decode cX9_putsBack 81 = .ok (.bastore, 1) := by decide +kernel
theorem dX9_putsBack_82 : decode cX9_putsBack 82 = .ok (.aload_n 0, 1) := by decide +kernel
theorem dX9_putsBack_83 : decode cX9_putsBack 83 = .ok (.getfield 113, 3) := by decide +kernel
theorem dX9_putsBack_86 : decode cX9_putsBack 86 = .ok (.iload_n 1, 1) := by decide +kernel
theorem dX9_putsBack_87 : decode cX9_putsBack 87 = .ok (.aload_n 0, 1) := by decide +kernel
theorem dX9_putsBack_88 : decode cX9_putsBack 88 = .ok (.getfield 168, 3) := by decide +kernel
theorem dX9_putsBack_91 : decode cX9_putsBack 91 = .ok (.iload_n 1, 1) := by decide +kernel
theorem dX9_putsBack_92 : decode cX9_putsBack 92 = .ok (.baload, 1) := by decide +kernel
theorem dX9_putsBack_93 : decode cX9_putsBack 93 = .ok (.bastore, 1) := by decide +kernel
theorem dX9_putsBack_94 : decode cX9_putsBack 94 = .ok (.iinc 1 1, 3) := by decide +kernel
theorem dX9_putsBack_97 : decode cX9_putsBack 97 = .ok (.goto (-95), 3) := by decide +kernel
theorem dX9_putsBack_100 : decode cX9_putsBack 100 = .ok (.return_, 1) := by decide +kernel
theorem dX9_after_0 : decode cX9_after 0 = .ok (.aload_n 0, 1) := by decide +kernel
theorem dX9_after_1 : decode cX9_after 1 = .ok (.iload_n 1, 1) := by decide +kernel
theorem dX9_after_2 : decode cX9_after 2 = .ok (.invokevirtual 329, 3) := by decide +kernel
theorem dX9_after_5 : decode cX9_after 5 = .ok (.ifCond .ne 9, 3) := by decide +kernel
theorem dX9_after_8 : decode cX9_after 8 = .ok (.aload_n 0, 1) := by decide +kernel
theorem dX9_after_9 : decode cX9_after 9 = .ok (.iconst (-1), 1) := by decide +kernel
theorem dX9_after_10 : decode cX9_after 10 = .ok (.invokevirtual 192, 3) := by decide +kernel
theorem dX9_after_13 : decode cX9_after 13 = .ok (.ireturn, 1) := by decide +kernel
theorem dX9_after_14 : decode cX9_after 14 = .ok (.iload_n 2, 1) := by decide +kernel
theorem dX9_after_15 : decode cX9_after 15 = .ok (.i2l, 1) := by decide +kernel
theorem dX9_after_16 : decode cX9_after 16 = .ok (.lconst 0, 1) := by decide +kernel
theorem dX9_after_17 : decode cX9_after 17 = .ok (.lconst 1, 1) := by decide +kernel
theorem dX9_after_18 : decode cX9_after 18 = .ok (.invokestatic 203, 3) := by decide +kernel
theorem dX9_after_21 : decode cX9_after 21 = .ok (.ifCond .ne 10, 3) := by decide +kernel
theorem dX9_after_24 : decode cX9_after 24 = .ok (.aload_n 0, 1) := by decide +kernel
theorem dX9_after_25 : decode cX9_after 25 = .ok (.bipush (-2), 2) := by decide +kernel
theorem dX9_after_27 : decode cX9_after 27 = .ok (.invokevirtual 192, 3) := by decide +kernel
theorem dX9_after_30 : decode cX9_after 30 = .ok (.ireturn, 1) := by decide +kernel
theorem dX9_after_31 : decode cX9_after 31 = .ok (.aload_n 0, 1) := by decide +kernel
theorem dX9_after_32 : decode cX9_after 32 = .ok (.invokevirtual 366, 3) := by decide +kernel
theorem dX9_after_35 : decode cX9_after 35 = .ok (.aload_n 0, 1) := by decide +kernel
theorem dX9_after_36 : decode cX9_after 36 = .ok (.invokevirtual 214, 3) := by decide +kernel
theorem dX9_after_39 : decode cX9_after 39 = .ok (.iconst 0, 1) := by decide +kernel
theorem dX9_after_40 : decode cX9_after 40 = .ok (.istore_n 3, 1) := by decide +kernel
theorem dX9_after_41 : decode cX9_after 41 = .ok (.iload_n 3, 1) := by decide +kernel
theorem dX9_after_42 : decode cX9_after 42 = .ok (.sipush 300, 3) := by decide +kernel
theorem dX9_after_45 : decode cX9_after 45 = .ok (.if_icmp .ge 29, 3) := by decide +kernel
theorem dX9_after_48 : decode cX9_after 48 = .ok (.aload_n 0, 1) := by decide +kernel
theorem dX9_after_49 : decode cX9_after 49 = .ok (.getfield 92, 3) := by decide +kernel
theorem dX9_after_52 : decode cX9_after 52 = .ok (.iload_n 1, 1) := by decide +kernel
theorem dX9_after_53 : decode cX9_after 53 = .ok (.iaload, 1) := by decide +kernel
theorem dX9_after_54 : decode cX9_after 54 = .ok (.iconst 2, 1) := by decide +kernel
theorem dX9_after_55 : decode cX9_after 55 = .ok (.if_icmp .ge 19, 3) := by decide +kernel
theorem dX9_after_58 : decode cX9_after 58 = .ok (.aload_n 0, 1) := by decide +kernel
theorem dX9_after_59 : decode cX9_after 59 = .ok (.aload_n 0, 1) := by decide +kernel
theorem dX9_after_60 : decode cX9_after 60 = .ok (.getfield 207, 3) := by decide +kernel
theorem dX9_after_63 : decode cX9_after 63 = .ok (.iload_n 3, 1) := by decide +kernel
theorem dX9_after_64 : decode cX9_after 64 = .ok (.iadd, 1) := by decide +kernel
theorem dX9_after_65 : decode cX9_after 65 = .ok (.invokevirtual 360, 3) := by decide +kernel
theorem dX9_after_68 : decode cX9_after 68 = .ok (.iinc 3 1, 3) := by decide +kernel
theorem dX9_after_71 : decode cX9_after 71 = .ok (.goto (-30), 3) := by decide +kernel
theorem dX9_after_74 : decode cX9_after 74 = .ok (.aload_n 0, 1) := by decide +kernel
theorem dX9_after_75 : decode cX9_after 75 = .ok (.getfield 92, 3) := by decide +kernel
theorem dX9_after_78 : decode cX9_after 78 = .ok (.iload_n 1, 1) := by decide +kernel
theorem dX9_after_79 : decode cX9_after 79 = .ok (.iaload, 1) := by decide +kernel
theorem dX9_after_80 : decode cX9_after 80 = .ok (.iconst 2, 1) := by decide +kernel
theorem dX9_after_81 : decode cX9_after 81 = .ok (.if_icmp .ge 8, 3) := by decide +kernel
theorem dX9_after_84 : decode cX9_after 84 = .ok (.bipush (-9), 2) := by decide +kernel
theorem dX9_after_86 : decode cX9_after 86 = .ok (.goto 22, 3) := by decide +kernel
theorem dX9_after_89 : decode cX9_after 89 = .ok (.iload_n 2, 1) := by decide +kernel
theorem dX9_after_90 : decode cX9_after 90 = .ok (.ifCond .ne 12, 3) := by decide +kernel
theorem dX9_after_93 : decode cX9_after 93 = .ok (.aload_n 0, 1) := by decide +kernel
theorem dX9_after_94 : decode cX9_after 94 = .ok (.getfield 98, 3) := by decide +kernel
theorem dX9_after_97 : decode cX9_after 97 = .ok (.iload_n 1, 1) := by decide +kernel
theorem dX9_after_98 : decode cX9_after 98 = .ok (.iaload, 1) := by decide +kernel
theorem dX9_after_99 : decode cX9_after 99 = .ok (.goto 9, 3) := by decide +kernel
theorem dX9_after_102 : decode cX9_after 102 = .ok (.aload_n 0, 1) := by decide +kernel
theorem dX9_after_103 : decode cX9_after 103 = .ok (.getfield 92, 3) := by decide +kernel
theorem dX9_after_106 : decode cX9_after 106 = .ok (.iload_n 1, 1) := by decide +kernel
theorem dX9_after_107 : decode cX9_after 107 = .ok (.iaload, 1) := by decide +kernel
theorem dX9_after_108 : decode cX9_after 108 = .ok (.istore_n 3, 1) := by decide +kernel
theorem dX9_after_109 : decode cX9_after 109 = .ok (.aload_n 0, 1) := by decide +kernel
theorem dX9_after_110 : decode cX9_after 110 = .ok (.invokevirtual 369, 3) := by decide +kernel
theorem dX9_after_113 : decode cX9_after 113 = .ok (.iload_n 3, 1) := by decide +kernel
theorem dX9_after_114 : decode cX9_after 114 = .ok (.ireturn, 1) := by decide +kernel
theorem dX9_paid_0 : decode cX9_paid 0 = .ok (.aload_n 0, 1) := by decide +kernel
theorem dX9_paid_1 : decode cX9_paid 1 = .ok (.iload_n 1, 1) := by decide +kernel
theorem dX9_paid_2 : decode cX9_paid 2 = .ok (.invokevirtual 241, 3) := by decide +kernel
theorem dX9_paid_5 : decode cX9_paid 5 = .ok (.ifCond .ne 9, 3) := by decide +kernel
theorem dX9_paid_8 : decode cX9_paid 8 = .ok (.aload_n 0, 1) := by decide +kernel
theorem dX9_paid_9 : decode cX9_paid 9 = .ok (.iconst (-1), 1) := by decide +kernel
theorem dX9_paid_10 : decode cX9_paid 10 = .ok (.invokevirtual 192, 3) := by decide +kernel
theorem dX9_paid_13 : decode cX9_paid 13 = .ok (.ireturn, 1) := by decide +kernel
theorem dX9_paid_14 : decode cX9_paid 14 = .ok (.iconst 0, 1) := by decide +kernel
theorem dX9_paid_15 : decode cX9_paid 15 = .ok (.istore_n 2, 1) := by decide +kernel
theorem dX9_paid_16 : decode cX9_paid 16 = .ok (.iconst 0, 1) := by decide +kernel
theorem dX9_paid_17 : decode cX9_paid 17 = .ok (.istore_n 3, 1) := by decide +kernel
theorem dX9_paid_18 : decode cX9_paid 18 = .ok (.iload_n 3, 1) := by decide +kernel
theorem dX9_paid_19 : decode cX9_paid 19 = .ok (.aload_n 0, 1) := by decide +kernel
theorem dX9_paid_20 : decode cX9_paid 20 = .ok (.getfield 259, 3) := by decide +kernel
theorem dX9_paid_23 : decode cX9_paid 23 = .ok (.if_icmp .ge 52, 3) := by decide +kernel
theorem dX9_paid_26 : decode cX9_paid 26 = .ok (.iload_n 2, 1) := by decide +kernel
theorem dX9_paid_27 : decode cX9_paid 27 = .ok (.aload_n 0, 1) := by decide +kernel
theorem dX9_paid_28 : decode cX9_paid 28 = .ok (.getfield 86, 3) := by decide +kernel
theorem dX9_paid_31 : decode cX9_paid 31 = .ok (.iload_n 3, 1) := by decide +kernel
theorem dX9_paid_32 : decode cX9_paid 32 = .ok (.iaload, 1) := by decide +kernel
theorem dX9_paid_33 : decode cX9_paid 33 = .ok (.iload_n 1, 1) := by decide +kernel
theorem dX9_paid_34 : decode cX9_paid 34 = .ok (.if_icmp .ne 32, 3) := by decide +kernel
theorem dX9_paid_37 : decode cX9_paid 37 = .ok (.aload_n 0, 1) := by decide +kernel
theorem dX9_paid_38 : decode cX9_paid 38 = .ok (.getfield 77, 3) := by decide +kernel
theorem dX9_paid_41 : decode cX9_paid 41 = .ok (.iload_n 3, 1) := by decide +kernel
theorem dX9_paid_42 : decode cX9_paid 42 = .ok (.iaload, 1) := by decide +kernel
theorem dX9_paid_43 : decode cX9_paid 43 = .ok (.iconst 2, 1) := by decide +kernel
theorem dX9_paid_44 : decode cX9_paid 44 = .ok (.if_icmp .ne 22, 3) := by decide +kernel
theorem dX9_paid_47 : decode cX9_paid 47 = .ok (.aload_n 0, 1) := by decide +kernel
theorem dX9_paid_48 : decode cX9_paid 48 = .ok (.getfield 92, 3) := by decide +kernel
theorem dX9_paid_51 : decode cX9_paid 51 = .ok (.iload_n 3, 1) := by decide +kernel
theorem dX9_paid_52 : decode cX9_paid 52 = .ok (.iaload, 1) := by decide +kernel
theorem dX9_paid_53 : decode cX9_paid 53 = .ok (.iconst 2, 1) := by decide +kernel
theorem dX9_paid_54 : decode cX9_paid 54 = .ok (.if_icmp .ne 12, 3) := by decide +kernel
theorem dX9_paid_57 : decode cX9_paid 57 = .ok (.aload_n 0, 1) := by decide +kernel
theorem dX9_paid_58 : decode cX9_paid 58 = .ok (.getfield 89, 3) := by decide +kernel
theorem dX9_paid_61 : decode cX9_paid 61 = .ok (.iload_n 3, 1) := by decide +kernel
theorem dX9_paid_62 : decode cX9_paid 62 = .ok (.iaload, 1) := by decide +kernel
theorem dX9_paid_63 : decode cX9_paid 63 = .ok (.goto 4, 3) := by decide +kernel
theorem dX9_paid_66 : decode cX9_paid 66 = .ok (.iconst 0, 1) := by decide +kernel
theorem dX9_paid_67 : decode cX9_paid 67 = .ok (.iadd, 1) := by decide +kernel
theorem dX9_paid_68 : decode cX9_paid 68 = .ok (.istore_n 2, 1) := by decide +kernel
theorem dX9_paid_69 : decode cX9_paid 69 = .ok (.iinc 3 1, 3) := by decide +kernel
theorem dX9_paid_72 : decode cX9_paid 72 = .ok (.goto (-54), 3) := by decide +kernel
theorem dX9_paid_75 : decode cX9_paid 75 = .ok (.iload_n 2, 1) := by decide +kernel
theorem dX9_paid_76 : decode cX9_paid 76 = .ok (.ireturn, 1) := by decide +kernel
theorem dX9_fits_0 : decode cX9_fits 0 = .ok (.iload_n 2, 1) := by decide +kernel
theorem dX9_fits_1 : decode cX9_fits 1 = .ok (.ifCond .lt 15, 3) := by decide +kernel
theorem dX9_fits_4 : decode cX9_fits 4 = .ok (.aload_n 0, 1) := by decide +kernel
theorem dX9_fits_5 : decode cX9_fits 5 = .ok (.getfield 59, 3) := by decide +kernel
theorem dX9_fits_8 : decode cX9_fits 8 = .ok (.iload_n 1, 1) := by decide +kernel
theorem dX9_fits_9 : decode cX9_fits 9 = .ok (.iaload, 1) := by decide +kernel
theorem dX9_fits_10 : decode cX9_fits 10 = .ok (.iload_n 2, 1) := by decide +kernel
theorem dX9_fits_11 : decode cX9_fits 11 = .ok (.if_icmp .eq 5, 3) := by decide +kernel
theorem dX9_fits_14 : decode cX9_fits 14 = .ok (.iconst 0, 1) := by decide +kernel
theorem dX9_fits_15 : decode cX9_fits 15 = .ok (.ireturn, 1) := by decide +kernel
theorem dX9_fits_16 : decode cX9_fits 16 = .ok (.iload_n 3, 1) := by decide +kernel
theorem dX9_fits_17 : decode cX9_fits 17 = .ok (.istore 4, 2) := by decide +kernel
theorem dX9_fits_19 : decode cX9_fits 19 = .ok (.aload_n 0, 1) := by decide +kernel
theorem dX9_fits_20 : decode cX9_fits 20 = .ok (.getfield 62, 3) := by decide +kernel
theorem dX9_fits_23 : decode cX9_fits 23 = .ok (.iload_n 1, 1) := by decide +kernel
theorem dX9_fits_24 : decode cX9_fits 24 = .ok (.iaload, 1) := by decide +kernel
theorem dX9_fits_25 : decode cX9_fits 25 = .ok (.istore 5, 2) := by decide +kernel
theorem dX9_fits_27 : decode cX9_fits 27 = .ok (.iconst 0, 1) := by decide +kernel
theorem dX9_fits_28 : decode cX9_fits 28 = .ok (.istore 6, 2) := by decide +kernel
theorem dX9_fits_30 : decode cX9_fits 30 = .ok (.iload 6, 2) := by decide +kernel
theorem dX9_fits_32 : decode cX9_fits 32 = .ok (.iconst 4, 1) := by decide +kernel
theorem dX9_fits_33 : decode cX9_fits 33 = .ok (.if_icmp .ge 48, 3) := by decide +kernel
theorem dX9_fits_36 : decode cX9_fits 36 = .ok (.iload 4, 2) := by decide +kernel
theorem dX9_fits_38 : decode cX9_fits 38 = .ok (.bipush 11, 2) := by decide +kernel
theorem dX9_fits_40 : decode cX9_fits 40 = .ok (.irem, 1) := by decide +kernel
theorem dX9_fits_41 : decode cX9_fits 41 = .ok (.bipush 10, 2) := by decide +kernel
theorem dX9_fits_43 : decode cX9_fits 43 = .ok (.if_icmp .eq 18, 3) := by decide +kernel
theorem dX9_fits_46 : decode cX9_fits 46 = .ok (.iload 4, 2) := by decide +kernel
theorem dX9_fits_48 : decode cX9_fits 48 = .ok (.bipush 11, 2) := by decide +kernel
theorem dX9_fits_50 : decode cX9_fits 50 = .ok (.irem, 1) := by decide +kernel
theorem dX9_fits_51 : decode cX9_fits 51 = .ok (.iload 5, 2) := by decide +kernel
theorem dX9_fits_53 : decode cX9_fits 53 = .ok (.bipush 10, 2) := by decide +kernel
theorem dX9_fits_55 : decode cX9_fits 55 = .ok (.irem, 1) := by decide +kernel
theorem dX9_fits_56 : decode cX9_fits 56 = .ok (.if_icmp .eq 5, 3) := by decide +kernel
theorem dX9_fits_59 : decode cX9_fits 59 = .ok (.iconst 0, 1) := by decide +kernel
theorem dX9_fits_60 : decode cX9_fits 60 = .ok (.ireturn, 1) := by decide +kernel
theorem dX9_fits_61 : decode cX9_fits 61 = .ok (.iload 4, 2) := by decide +kernel
theorem dX9_fits_63 : decode cX9_fits 63 = .ok (.bipush 11, 2) := by decide +kernel
theorem dX9_fits_65 : decode cX9_fits 65 = .ok (.idiv, 1) := by decide +kernel
theorem dX9_fits_66 : decode cX9_fits 66 = .ok (.istore 4, 2) := by decide +kernel
theorem dX9_fits_68 : decode cX9_fits 68 = .ok (.iload 5, 2) := by decide +kernel
theorem dX9_fits_70 : decode cX9_fits 70 = .ok (.bipush 10, 2) := by decide +kernel
theorem dX9_fits_72 : decode cX9_fits 72 = .ok (.idiv, 1) := by decide +kernel
theorem dX9_fits_73 : decode cX9_fits 73 = .ok (.istore 5, 2) := by decide +kernel
theorem dX9_fits_75 : decode cX9_fits 75 = .ok (.iinc 6 1, 3) := by decide +kernel
theorem dX9_fits_78 : decode cX9_fits 78 = .ok (.goto (-48), 3) := by decide +kernel
theorem dX9_fits_81 : decode cX9_fits 81 = .ok (.iconst 1, 1) := by decide +kernel
theorem dX9_fits_82 : decode cX9_fits 82 = .ok (.ireturn, 1) := by decide +kernel
theorem dX9_notCover_0 : decode cX9_notCover 0 = .ok (.iload_n 1, 1) := by decide +kernel
theorem dX9_notCover_1 : decode cX9_notCover 1 = .ok (.i2l, 1) := by decide +kernel
theorem dX9_notCover_2 : decode cX9_notCover 2 = .ok (.ldc2_w 372, 3) := by decide +kernel
theorem dX9_notCover_5 : decode cX9_notCover 5 = .ok (.ldc2_w 374, 3) := by decide +kernel
theorem dX9_notCover_8 : decode cX9_notCover 8 = .ok (.invokestatic 203, 3) := by decide +kernel
theorem dX9_notCover_11 : decode cX9_notCover 11 = .ok (.ifCond .ne 7, 3) := by decide +kernel
theorem dX9_notCover_14 : decode cX9_notCover 14 = .ok (.iconst (-1), 1) := by decide +kernel
theorem dX9_notCover_15 : decode cX9_notCover 15 = .ok (.goto 12, 3) := by decide +kernel
theorem dX9_notCover_18 : decode cX9_notCover 18 = .ok (.iload_n 2, 1) := by decide +kernel
theorem dX9_notCover_19 : decode cX9_notCover 19 = .ok (.i2l, 1) := by decide +kernel
theorem dX9_notCover_20 : decode cX9_notCover 20 = .ok (.lconst 0, 1) := by decide +kernel
theorem dX9_notCover_21 : decode cX9_notCover 21 = .ok (.ldc2_w 376, 3) := by decide +kernel
theorem dX9_notCover_24 : decode cX9_notCover 24 = .ok (.invokestatic 188, 3) := by decide +kernel
theorem dX9_notCover_27 : decode cX9_notCover 27 = .ok (.ireturn, 1) := by decide +kernel
theorem dX9_cover_0 : decode cX9_cover 0 = .ok (.aload_n 0, 1) := by decide +kernel
theorem dX9_cover_1 : decode cX9_cover 1 = .ok (.iload_n 1, 1) := by decide +kernel
theorem dX9_cover_2 : decode cX9_cover 2 = .ok (.iload_n 2, 1) := by decide +kernel
theorem dX9_cover_3 : decode cX9_cover 3 = .ok (.invokevirtual 378, 3) := by decide +kernel
theorem dX9_cover_6 : decode cX9_cover 6 = .ok (.istore_n 3, 1) := by decide +kernel
theorem dX9_cover_7 : decode cX9_cover 7 = .ok (.iload_n 3, 1) := by decide +kernel
theorem dX9_cover_8 : decode cX9_cover 8 = .ok (.ifCond .eq 9, 3) := by decide +kernel
theorem dX9_cover_11 : decode cX9_cover 11 = .ok (.aload_n 0, 1) := by decide +kernel
theorem dX9_cover_12 : decode cX9_cover 12 = .ok (.iload_n 3, 1) := by decide +kernel
theorem dX9_cover_13 : decode cX9_cover 13 = .ok (.invokevirtual 192, 3) := by decide +kernel
theorem dX9_cover_16 : decode cX9_cover 16 = .ok (.ireturn, 1) := by decide +kernel
theorem dX9_cover_17 : decode cX9_cover 17 = .ok (.iconst 0, 1) := by decide +kernel
theorem dX9_cover_18 : decode cX9_cover 18 = .ok (.istore 4, 2) := by decide +kernel
theorem dX9_cover_20 : decode cX9_cover 20 = .ok (.iconst 0, 1) := by decide +kernel
theorem dX9_cover_21 : decode cX9_cover 21 = .ok (.istore 5, 2) := by decide +kernel
theorem dX9_cover_23 : decode cX9_cover 23 = .ok (.iload 5, 2) := by decide +kernel
theorem dX9_cover_25 : decode cX9_cover 25 = .ok (.aload_n 0, 1) := by decide +kernel
theorem dX9_cover_26 : decode cX9_cover 26 = .ok (.getfield 220, 3) := by decide +kernel
theorem dX9_cover_29 : decode cX9_cover 29 = .ok (.if_icmp .ge 30, 3) := by decide +kernel
theorem dX9_cover_32 : decode cX9_cover 32 = .ok (.iload 4, 2) := by decide +kernel
theorem dX9_cover_34 : decode cX9_cover 34 = .ok (.aload_n 0, 1) := by decide +kernel
theorem dX9_cover_35 : decode cX9_cover 35 = .ok (.iload 5, 2) := by decide +kernel
theorem dX9_cover_37 : decode cX9_cover 37 = .ok (.iload_n 1, 1) := by decide +kernel
theorem dX9_cover_38 : decode cX9_cover 38 = .ok (.iload_n 2, 1) := by decide +kernel
theorem dX9_cover_39 : decode cX9_cover 39 = .ok (.invokevirtual 381, 3) := by decide +kernel
theorem dX9_cover_42 : decode cX9_cover 42 = .ok (.ifCond .eq 7, 3) := by decide +kernel
theorem dX9_cover_45 : decode cX9_cover 45 = .ok (.iconst 1, 1) := by decide +kernel
theorem dX9_cover_46 : decode cX9_cover 46 = .ok (.goto 4, 3) := by decide +kernel
theorem dX9_cover_49 : decode cX9_cover 49 = .ok (.iconst 0, 1) := by decide +kernel
theorem dX9_cover_50 : decode cX9_cover 50 = .ok (.iadd, 1) := by decide +kernel
theorem dX9_cover_51 : decode cX9_cover 51 = .ok (.istore 4, 2) := by decide +kernel
theorem dX9_cover_53 : decode cX9_cover 53 = .ok (.iinc 5 1, 3) := by decide +kernel
theorem dX9_cover_56 : decode cX9_cover 56 = .ok (.goto (-33), 3) := by decide +kernel
theorem dX9_cover_59 : decode cX9_cover 59 = .ok (.iload 4, 2) := by decide +kernel
theorem dX9_cover_61 : decode cX9_cover 61 = .ok (.ireturn, 1) := by decide +kernel
theorem dX9_sure_0 : decode cX9_sure 0 = .ok (.aload_n 0, 1) := by decide +kernel
theorem dX9_sure_1 : decode cX9_sure 1 = .ok (.iload_n 1, 1) := by decide +kernel
theorem dX9_sure_2 : decode cX9_sure 2 = .ok (.iload_n 2, 1) := by decide +kernel
theorem dX9_sure_3 : decode cX9_sure 3 = .ok (.invokevirtual 378, 3) := by decide +kernel
theorem dX9_sure_6 : decode cX9_sure 6 = .ok (.istore_n 3, 1) := by decide +kernel
theorem dX9_sure_7 : decode cX9_sure 7 = .ok (.iload_n 3, 1) := by decide +kernel
theorem dX9_sure_8 : decode cX9_sure 8 = .ok (.ifCond .eq 9, 3) := by decide +kernel
theorem dX9_sure_11 : decode cX9_sure 11 = .ok (.aload_n 0, 1) := by decide +kernel
theorem dX9_sure_12 : decode cX9_sure 12 = .ok (.iload_n 3, 1) := by decide +kernel
theorem dX9_sure_13 : decode cX9_sure 13 = .ok (.invokevirtual 192, 3) := by decide +kernel
theorem dX9_sure_16 : decode cX9_sure 16 = .ok (.ireturn, 1) := by decide +kernel
theorem dX9_sure_17 : decode cX9_sure 17 = .ok (.bipush (-9), 2) := by decide +kernel
theorem dX9_sure_19 : decode cX9_sure 19 = .ok (.istore 4, 2) := by decide +kernel
theorem dX9_sure_21 : decode cX9_sure 21 = .ok (.iconst 0, 1) := by decide +kernel
theorem dX9_sure_22 : decode cX9_sure 22 = .ok (.istore 5, 2) := by decide +kernel
theorem dX9_sure_24 : decode cX9_sure 24 = .ok (.iload 5, 2) := by decide +kernel
theorem dX9_sure_26 : decode cX9_sure 26 = .ok (.aload_n 0, 1) := by decide +kernel
theorem dX9_sure_27 : decode cX9_sure 27 = .ok (.getfield 220, 3) := by decide +kernel
theorem dX9_sure_30 : decode cX9_sure 30 = .ok (.if_icmp .ge 35, 3) := by decide +kernel
theorem dX9_sure_33 : decode cX9_sure 33 = .ok (.aload_n 0, 1) := by decide +kernel
theorem dX9_sure_34 : decode cX9_sure 34 = .ok (.iload 5, 2) := by decide +kernel
theorem dX9_sure_36 : decode cX9_sure 36 = .ok (.iload_n 1, 1) := by decide +kernel
theorem dX9_sure_37 : decode cX9_sure 37 = .ok (.iload_n 2, 1) := by decide +kernel
theorem dX9_sure_38 : decode cX9_sure 38 = .ok (.invokevirtual 381, 3) := by decide +kernel
theorem dX9_sure_41 : decode cX9_sure 41 = .ok (.ifCond .ne 6, 3) := by decide +kernel
theorem dX9_sure_44 : decode cX9_sure 44 = .ok (.goto 15, 3) := by decide +kernel
theorem dX9_sure_47 : decode cX9_sure 47 = .ok (.iload 4, 2) := by decide +kernel
theorem dX9_sure_49 : decode cX9_sure 49 = .ok (.ifCond .lt 6, 3) := by decide +kernel
theorem dX9_sure_52 : decode cX9_sure 52 = .ok (.bipush (-9), 2) := by decide +kernel
theorem dX9_sure_54 : decode cX9_sure 54 = .ok (.ireturn, 1) := by decide +kernel
theorem dX9_sure_55 : decode cX9_sure 55 = .ok (.iload 5, 2) := by decide +kernel
theorem dX9_sure_57 : decode cX9_sure 57 = .ok (.istore 4, 2) := by decide +kernel
theorem dX9_sure_59 : decode cX9_sure 59 = .ok (.iinc 5 1, 3) := by decide +kernel
theorem dX9_sure_62 : decode cX9_sure 62 = .ok (.goto (-38), 3) := by decide +kernel
theorem dX9_sure_65 : decode cX9_sure 65 = .ok (.iload 4, 2) := by decide +kernel
theorem dX9_sure_67 : decode cX9_sure 67 = .ok (.ireturn, 1) := by decide +kernel
theorem dX9_sack_0 : decode cX9_sack 0 = .ok (.iload_n 1, 1) := by decide +kernel
theorem dX9_sack_1 : decode cX9_sack 1 = .ok (.iconst 1, 1) := by decide +kernel
theorem dX9_sack_2 : decode cX9_sack 2 = .ok (.if_icmp .lt 12, 3) := by decide +kernel
theorem dX9_sack_5 : decode cX9_sack 5 = .ok (.iload_n 2, 1) := by decide +kernel
theorem dX9_sack_6 : decode cX9_sack 6 = .ok (.iconst 1, 1) := by decide +kernel
theorem dX9_sack_7 : decode cX9_sack 7 = .ok (.if_icmp .lt 7, 3) := by decide +kernel
theorem dX9_sack_10 : decode cX9_sack 10 = .ok (.iload_n 3, 1) := by decide +kernel
theorem dX9_sack_11 : decode cX9_sack 11 = .ok (.ifCond .ge 8, 3) := by decide +kernel
theorem dX9_sack_14 : decode cX9_sack 14 = .ok (.bipush (-4), 2) := by decide +kernel
theorem dX9_sack_16 : decode cX9_sack 16 = .ok (.goto 38, 3) := by decide +kernel
theorem dX9_sack_19 : decode cX9_sack 19 = .ok (.iload_n 1, 1) := by decide +kernel
theorem dX9_sack_20 : decode cX9_sack 20 = .ok (.bipush 99, 2) := by decide +kernel
theorem dX9_sack_22 : decode cX9_sack 22 = .ok (.if_icmp .gt 26, 3) := by decide +kernel
theorem dX9_sack_25 : decode cX9_sack 25 = .ok (.iload_n 2, 1) := by decide +kernel
theorem dX9_sack_26 : decode cX9_sack 26 = .ok (.sipush 999, 3) := by decide +kernel
theorem dX9_sack_29 : decode cX9_sack 29 = .ok (.if_icmp .gt 19, 3) := by decide +kernel
theorem dX9_sack_32 : decode cX9_sack 32 = .ok (.iload_n 3, 1) := by decide +kernel
theorem dX9_sack_33 : decode cX9_sack 33 = .ok (.sipush 9999, 3) := by decide +kernel
theorem dX9_sack_36 : decode cX9_sack 36 = .ok (.if_icmp .gt 12, 3) := by decide +kernel
theorem dX9_sack_39 : decode cX9_sack 39 = .ok (.aload_n 0, 1) := by decide +kernel
theorem dX9_sack_40 : decode cX9_sack 40 = .ok (.getfield 384, 3) := by decide +kernel
theorem dX9_sack_43 : decode cX9_sack 43 = .ok (.bipush 7, 2) := by decide +kernel
theorem dX9_sack_45 : decode cX9_sack 45 = .ok (.if_icmp .ne 8, 3) := by decide +kernel
theorem dX9_sack_48 : decode cX9_sack 48 = .ok (.bipush (-6), 2) := by decide +kernel
theorem dX9_sack_50 : decode cX9_sack 50 = .ok (.goto 4, 3) := by decide +kernel
theorem dX9_sack_53 : decode cX9_sack 53 = .ok (.iconst 0, 1) := by decide +kernel
theorem dX9_sack_54 : decode cX9_sack 54 = .ok (.istore 4, 2) := by decide +kernel
theorem dX9_sack_56 : decode cX9_sack 56 = .ok (.iload 4, 2) := by decide +kernel
theorem dX9_sack_58 : decode cX9_sack 58 = .ok (.ifCond .eq 10, 3) := by decide +kernel
theorem dX9_sack_61 : decode cX9_sack 61 = .ok (.aload_n 0, 1) := by decide +kernel
theorem dX9_sack_62 : decode cX9_sack 62 = .ok (.iload 4, 2) := by decide +kernel
theorem dX9_sack_64 : decode cX9_sack 64 = .ok (.invokevirtual 192, 3) := by decide +kernel
theorem dX9_sack_67 : decode cX9_sack 67 = .ok (.ireturn, 1) := by decide +kernel
theorem dX9_sack_68 : decode cX9_sack 68 = .ok (.aload_n 0, 1) := by decide +kernel
theorem dX9_sack_69 : decode cX9_sack 69 = .ok (.getfield 171, 3) := by decide +kernel
theorem dX9_sack_72 : decode cX9_sack 72 = .ok (.aload_n 0, 1) := by decide +kernel
theorem dX9_sack_73 : decode cX9_sack 73 = .ok (.getfield 384, 3) := by decide +kernel
theorem dX9_sack_76 : decode cX9_sack 76 = .ok (.iload_n 1, 1) := by decide +kernel
theorem dX9_sack_77 : decode cX9_sack 77 = .ok (.iastore, 1) := by decide +kernel
theorem dX9_sack_78 : decode cX9_sack 78 = .ok (.aload_n 0, 1) := by decide +kernel
theorem dX9_sack_79 : decode cX9_sack 79 = .ok (.getfield 174, 3) := by decide +kernel
theorem dX9_sack_82 : decode cX9_sack 82 = .ok (.aload_n 0, 1) := by decide +kernel
theorem dX9_sack_83 : decode cX9_sack 83 = .ok (.getfield 384, 3) := by decide +kernel
theorem dX9_sack_86 : decode cX9_sack 86 = .ok (.iload_n 2, 1) := by decide +kernel
theorem dX9_sack_87 : decode cX9_sack 87 = .ok (.iastore, 1) := by decide +kernel
theorem dX9_sack_88 : decode cX9_sack 88 = .ok (.aload_n 0, 1) := by decide +kernel
theorem dX9_sack_89 : decode cX9_sack 89 = .ok (.getfield 177, 3) := by decide +kernel
theorem dX9_sack_92 : decode cX9_sack 92 = .ok (.aload_n 0, 1) := by decide +kernel
theorem dX9_sack_93 : decode cX9_sack 93 = .ok (.getfield 384, 3) := by decide +kernel
theorem dX9_sack_96 : decode cX9_sack 96 = .ok (.iload_n 3, 1) := by decide +kernel
theorem dX9_sack_97 : decode cX9_sack 97 = .ok (.iastore, 1) := by decide +kernel
theorem dX9_sack_98 : decode cX9_sack 98 = .ok (.aload_n 0, 1) := by decide +kernel
theorem dX9_sack_99 : decode cX9_sack 99 = .ok (.dup, 1) := by decide +kernel
theorem dX9_sack_100 : decode cX9_sack 100 = .ok (.getfield 384, 3) := by decide +kernel
theorem dX9_sack_103 : decode cX9_sack 103 = .ok (.iconst 1, 1) := by decide +kernel
theorem dX9_sack_104 : decode cX9_sack 104 = .ok (.iadd, 1) := by decide +kernel
theorem dX9_sack_105 : decode cX9_sack 105 = .ok (.putfield 384, 3) := by decide +kernel
theorem dX9_sack_108 : decode cX9_sack 108 = .ok (.aload_n 0, 1) := by decide +kernel
theorem dX9_sack_109 : decode cX9_sack 109 = .ok (.getfield 384, 3) := by decide +kernel
theorem dX9_sack_112 : decode cX9_sack 112 = .ok (.iconst 1, 1) := by decide +kernel
theorem dX9_sack_113 : decode cX9_sack 113 = .ok (.isub, 1) := by decide +kernel
theorem dX9_sack_114 : decode cX9_sack 114 = .ok (.ireturn, 1) := by decide +kernel
theorem dX9_canBe_0 : decode cX9_canBe 0 = .ok (.iconst 0, 1) := by decide +kernel
theorem dX9_canBe_1 : decode cX9_canBe 1 = .ok (.istore_n 2, 1) := by decide +kernel
theorem dX9_canBe_2 : decode cX9_canBe 2 = .ok (.iload_n 2, 1) := by decide +kernel
theorem dX9_canBe_3 : decode cX9_canBe 3 = .ok (.aload_n 0, 1) := by decide +kernel
theorem dX9_canBe_4 : decode cX9_canBe 4 = .ok (.getfield 384, 3) := by decide +kernel
theorem dX9_canBe_7 : decode cX9_canBe 7 = .ok (.if_icmp .ge 124, 3) := by decide +kernel
theorem dX9_canBe_10 : decode cX9_canBe 10 = .ok (.iconst 0, 1) := by decide +kernel
theorem dX9_canBe_11 : decode cX9_canBe 11 = .ok (.istore_n 3, 1) := by decide +kernel
theorem dX9_canBe_12 : decode cX9_canBe 12 = .ok (.iconst 0, 1) := by decide +kernel
theorem dX9_canBe_13 : decode cX9_canBe 13 = .ok (.istore 4, 2) := by decide +kernel
theorem dX9_canBe_15 : decode cX9_canBe 15 = .ok (.iload 4, 2) := by decide +kernel
theorem dX9_canBe_17 : decode cX9_canBe 17 = .ok (.aload_n 0, 1) := by decide +kernel
theorem dX9_canBe_18 : decode cX9_canBe 18 = .ok (.getfield 384, 3) := by decide +kernel
theorem dX9_canBe_21 : decode cX9_canBe 21 = .ok (.if_icmp .ge 83, 3) := by decide +kernel
theorem dX9_canBe_24 : decode cX9_canBe 24 = .ok (.aload_n 0, 1) := by decide +kernel
theorem dX9_canBe_25 : decode cX9_canBe 25 = .ok (.getfield 174, 3) := by decide +kernel
theorem dX9_canBe_28 : decode cX9_canBe 28 = .ok (.iload 4, 2) := by decide +kernel
theorem dX9_canBe_30 : decode cX9_canBe 30 = .ok (.iaload, 1) := by decide +kernel
theorem dX9_canBe_31 : decode cX9_canBe 31 = .ok (.aload_n 0, 1) := by decide +kernel
theorem dX9_canBe_32 : decode cX9_canBe 32 = .ok (.getfield 174, 3) := by decide +kernel
theorem dX9_canBe_35 : decode cX9_canBe 35 = .ok (.iload_n 2, 1) := by decide +kernel
theorem dX9_canBe_36 : decode cX9_canBe 36 = .ok (.iaload, 1) := by decide +kernel
theorem dX9_canBe_37 : decode cX9_canBe 37 = .ok (.if_icmp .lt 25, 3) := by decide +kernel
theorem dX9_canBe_40 : decode cX9_canBe 40 = .ok (.aload_n 0, 1) := by decide +kernel
theorem dX9_canBe_41 : decode cX9_canBe 41 = .ok (.getfield 174, 3) := by decide +kernel
theorem dX9_canBe_44 : decode cX9_canBe 44 = .ok (.iload 4, 2) := by decide +kernel
theorem dX9_canBe_46 : decode cX9_canBe 46 = .ok (.iaload, 1) := by decide +kernel
theorem dX9_canBe_47 : decode cX9_canBe 47 = .ok (.aload_n 0, 1) := by decide +kernel
theorem dX9_canBe_48 : decode cX9_canBe 48 = .ok (.getfield 174, 3) := by decide +kernel
theorem dX9_canBe_51 : decode cX9_canBe 51 = .ok (.iload_n 2, 1) := by decide +kernel
theorem dX9_canBe_52 : decode cX9_canBe 52 = .ok (.iaload, 1) := by decide +kernel
theorem dX9_canBe_53 : decode cX9_canBe 53 = .ok (.if_icmp .ne 13, 3) := by decide +kernel
theorem dX9_canBe_56 : decode cX9_canBe 56 = .ok (.iload 4, 2) := by decide +kernel
theorem dX9_canBe_58 : decode cX9_canBe 58 = .ok (.iload_n 2, 1) := by decide +kernel
theorem dX9_canBe_59 : decode cX9_canBe 59 = .ok (.if_icmp .gt 7, 3) := by decide +kernel
theorem dX9_canBe_62 : decode cX9_canBe 62 = .ok (.iconst 1, 1) := by decide +kernel
theorem dX9_canBe_63 : decode cX9_canBe 63 = .ok (.goto 4, 3) := by decide +kernel
theorem dX9_canBe_66 : decode cX9_canBe 66 = .ok (.iconst 0, 1) := by decide +kernel
theorem dX9_canBe_67 : decode cX9_canBe 67 = .ok (.istore 5, 2) := by decide +kernel
theorem dX9_canBe_69 : decode cX9_canBe 69 = .ok (.iload_n 3, 1) := by decide +kernel
theorem dX9_canBe_70 : decode cX9_canBe 70 = .ok (.iload_n 1, 1) := by decide +kernel
theorem dX9_canBe_71 : decode cX9_canBe 71 = .ok (.iload 4, 2) := by decide +kernel
theorem dX9_canBe_73 : decode cX9_canBe 73 = .ok (.ishr, 1) := by decide +kernel
theorem dX9_canBe_74 : decode cX9_canBe 74 = .ok (.iconst 1, 1) := by decide +kernel
theorem dX9_canBe_75 : decode cX9_canBe 75 = .ok (.iand, 1) := by decide +kernel
theorem dX9_canBe_76 : decode cX9_canBe 76 = .ok (.iconst 1, 1) := by decide +kernel
theorem dX9_canBe_77 : decode cX9_canBe 77 = .ok (.if_icmp .ne 18, 3) := by decide +kernel
theorem dX9_canBe_80 : decode cX9_canBe 80 = .ok (.iload 5, 2) := by decide +kernel
theorem dX9_canBe_82 : decode cX9_canBe 82 = .ok (.ifCond .eq 13, 3) := by decide +kernel
theorem dX9_canBe_85 : decode cX9_canBe 85 = .ok (.aload_n 0, 1) := by decide +kernel
theorem dX9_canBe_86 : decode cX9_canBe 86 = .ok (.getfield 171, 3) := by decide +kernel
theorem dX9_canBe_89 : decode cX9_canBe 89 = .ok (.iload 4, 2) := by decide +kernel
theorem dX9_canBe_91 : decode cX9_canBe 91 = .ok (.iaload, 1) := by decide +kernel
theorem dX9_canBe_92 : decode cX9_canBe 92 = .ok (.goto 4, 3) := by decide +kernel
theorem dX9_canBe_95 : decode cX9_canBe 95 = .ok (.iconst 0, 1) := by decide +kernel
theorem dX9_canBe_96 : decode cX9_canBe 96 = .ok (.iadd, 1) := by decide +kernel
theorem dX9_canBe_97 : decode cX9_canBe 97 = .ok (.istore_n 3, 1) := by decide +kernel
theorem dX9_canBe_98 : decode cX9_canBe 98 = .ok (.iinc 4 1, 3) := by decide +kernel
theorem dX9_canBe_101 : decode cX9_canBe 101 = .ok (.goto (-86), 3) := by decide +kernel
theorem dX9_canBe_104 : decode cX9_canBe 104 = .ok (.iload_n 1, 1) := by decide +kernel
theorem dX9_canBe_105 : decode cX9_canBe 105 = .ok (.iload_n 2, 1) := by decide +kernel
theorem dX9_canBe_106 : decode cX9_canBe 106 = .ok (.ishr, 1) := by decide +kernel
theorem dX9_canBe_107 : decode cX9_canBe 107 = .ok (.iconst 1, 1) := by decide +kernel
theorem dX9_canBe_108 : decode cX9_canBe 108 = .ok (.iand, 1) := by decide +kernel
theorem dX9_canBe_109 : decode cX9_canBe 109 = .ok (.iconst 1, 1) := by decide +kernel
theorem dX9_canBe_110 : decode cX9_canBe 110 = .ok (.if_icmp .ne 15, 3) := by decide +kernel
theorem dX9_canBe_113 : decode cX9_canBe 113 = .ok (.iload_n 3, 1) := by decide +kernel
theorem dX9_canBe_114 : decode cX9_canBe 114 = .ok (.aload_n 0, 1) := by decide +kernel
theorem dX9_canBe_115 : decode cX9_canBe 115 = .ok (.getfield 174, 3) := by decide +kernel
theorem dX9_canBe_118 : decode cX9_canBe 118 = .ok (.iload_n 2, 1) := by decide +kernel
theorem dX9_canBe_119 : decode cX9_canBe 119 = .ok (.iaload, 1) := by decide +kernel
theorem dX9_canBe_120 : decode cX9_canBe 120 = .ok (.if_icmp .le 5, 3) := by decide +kernel
theorem dX9_canBe_123 : decode cX9_canBe 123 = .ok (.iconst 0, 1) := by decide +kernel
theorem dX9_canBe_124 : decode cX9_canBe 124 = .ok (.ireturn, 1) := by decide +kernel
theorem dX9_canBe_125 : decode cX9_canBe 125 = .ok (.iinc 2 1, 3) := by decide +kernel
theorem dX9_canBe_128 : decode cX9_canBe 128 = .ok (.goto (-126), 3) := by decide +kernel
theorem dX9_canBe_131 : decode cX9_canBe 131 = .ok (.iconst 1, 1) := by decide +kernel
theorem dX9_canBe_132 : decode cX9_canBe 132 = .ok (.ireturn, 1) := by decide +kernel
theorem dX9_findBest_0 : decode cX9_findBest 0 = .ok (.aload_n 0, 1) := by decide +kernel
theorem dX9_findBest_1 : decode cX9_findBest 1 = .ok (.iconst 0, 1) := by decide +kernel
theorem dX9_findBest_2 : decode cX9_findBest 2 = .ok (.putfield 387, 3) := by decide +kernel
theorem dX9_findBest_5 : decode cX9_findBest 5 = .ok (.aload_n 0, 1) := by decide +kernel
theorem dX9_findBest_6 : decode cX9_findBest 6 = .ok (.iconst 0, 1) := by decide +kernel
theorem dX9_findBest_7 : decode cX9_findBest 7 = .ok (.putfield 390, 3) := by decide +kernel
theorem dX9_findBest_10 : decode cX9_findBest 10 = .ok (.aload_n 0, 1) := by decide +kernel
theorem dX9_findBest_11 : decode cX9_findBest 11 = .ok (.iconst 0, 1) := by decide +kernel
theorem dX9_findBest_12 : decode cX9_findBest 12 = .ok (.putfield 393, 3) := by decide +kernel
theorem dX9_findBest_15 : decode cX9_findBest 15 = .ok (.iconst 1, 1) := by decide +kernel
theorem dX9_findBest_16 : decode cX9_findBest 16 = .ok (.istore_n 1, 1) := by decide +kernel
theorem dX9_findBest_17 : decode cX9_findBest 17 = .ok (.iload_n 1, 1) := by decide +kernel
theorem dX9_findBest_18 : decode cX9_findBest 18 = .ok (.iconst 1, 1) := by decide +kernel
theorem dX9_findBest_19 : decode cX9_findBest 19 = .ok (.aload_n 0, 1) := by decide +kernel
theorem dX9_findBest_20 : decode cX9_findBest 20 = .ok (.getfield 384, 3) := by decide +kernel
theorem dX9_findBest_23 : decode cX9_findBest 23 = .ok (.ishl, 1) := by decide +kernel
theorem dX9_findBest_24 : decode cX9_findBest 24 = .ok (.if_icmp .ge 118, 3) := by decide +kernel
theorem dX9_findBest_27 : decode cX9_findBest 27 = .ok (.aload_n 0, 1) := by decide +kernel
theorem dX9_findBest_28 : decode cX9_findBest 28 = .ok (.iload_n 1, 1) := by decide +kernel
theorem dX9_findBest_29 : decode cX9_findBest 29 = .ok (.invokevirtual 396, 3) := by decide +kernel
theorem dX9_findBest_32 : decode cX9_findBest 32 = .ok (.ifCond .ne 6, 3) := by decide +kernel
theorem dX9_findBest_35 : decode cX9_findBest 35 = .ok (.goto 101, 3) := by decide +kernel
theorem dX9_findBest_38 : decode cX9_findBest 38 = .ok (.iconst 0, 1) := by decide +kernel
theorem dX9_findBest_39 : decode cX9_findBest 39 = .ok (.istore_n 2, 1) := by decide +kernel
theorem dX9_findBest_40 : decode cX9_findBest 40 = .ok (.iconst 0, 1) := by decide +kernel
theorem dX9_findBest_41 : decode cX9_findBest 41 = .ok (.istore_n 3, 1) := by decide +kernel
theorem dX9_findBest_42 : decode cX9_findBest 42 = .ok (.iconst 0, 1) := by decide +kernel
theorem dX9_findBest_43 : decode cX9_findBest 43 = .ok (.istore 4, 2) := by decide +kernel
theorem dX9_findBest_45 : decode cX9_findBest 45 = .ok (.iload 4, 2) := by decide +kernel
theorem dX9_findBest_47 : decode cX9_findBest 47 = .ok (.aload_n 0, 1) := by decide +kernel
theorem dX9_findBest_48 : decode cX9_findBest 48 = .ok (.getfield 384, 3) := by decide +kernel
theorem dX9_findBest_51 : decode cX9_findBest 51 = .ok (.if_icmp .ge 43, 3) := by decide +kernel
theorem dX9_findBest_54 : decode cX9_findBest 54 = .ok (.iload_n 2, 1) := by decide +kernel
theorem dX9_findBest_55 : decode cX9_findBest 55 = .ok (.iload_n 1, 1) := by decide +kernel
theorem dX9_findBest_56 : decode cX9_findBest 56 = .ok (.iload 4, 2) := by decide +kernel
theorem dX9_findBest_58 : decode cX9_findBest 58 = .ok (.ishr, 1) := by decide +kernel
theorem dX9_findBest_59 : decode cX9_findBest 59 = .ok (.iconst 1, 1) := by decide +kernel
theorem dX9_findBest_60 : decode cX9_findBest 60 = .ok (.iand, 1) := by decide +kernel
theorem dX9_findBest_61 : decode cX9_findBest 61 = .ok (.aload_n 0, 1) := by decide +kernel
theorem dX9_findBest_62 : decode cX9_findBest 62 = .ok (.getfield 177, 3) := by decide +kernel
theorem dX9_findBest_65 : decode cX9_findBest 65 = .ok (.iload 4, 2) := by decide +kernel
theorem dX9_findBest_67 : decode cX9_findBest 67 = .ok (.iaload, 1) := by decide +kernel
theorem dX9_findBest_68 : decode cX9_findBest 68 = .ok (.imul, 1) := by decide +kernel
theorem dX9_findBest_69 : decode cX9_findBest 69 = .ok (.iadd, 1) := by decide +kernel
theorem dX9_findBest_70 : decode cX9_findBest 70 = .ok (.istore_n 2, 1) := by decide +kernel
theorem dX9_findBest_71 : decode cX9_findBest 71 = .ok (.iload_n 3, 1) := by decide +kernel
theorem dX9_findBest_72 : decode cX9_findBest 72 = .ok (.iload_n 1, 1) := by decide +kernel
theorem dX9_findBest_73 : decode cX9_findBest 73 = .ok (.iload 4, 2) := by decide +kernel
theorem dX9_findBest_75 : decode cX9_findBest 75 = .ok (.ishr, 1) := by decide +kernel
theorem dX9_findBest_76 : decode cX9_findBest 76 = .ok (.iconst 1, 1) := by decide +kernel
theorem dX9_findBest_77 : decode cX9_findBest 77 = .ok (.iand, 1) := by decide +kernel
theorem dX9_findBest_78 : decode cX9_findBest 78 = .ok (.aload_n 0, 1) := by decide +kernel
theorem dX9_findBest_79 : decode cX9_findBest 79 = .ok (.getfield 171, 3) := by decide +kernel
theorem dX9_findBest_82 : decode cX9_findBest 82 = .ok (.iload 4, 2) := by decide +kernel
theorem dX9_findBest_84 : decode cX9_findBest 84 = .ok (.iaload, 1) := by decide +kernel
theorem dX9_findBest_85 : decode cX9_findBest 85 = .ok (.imul, 1) := by decide +kernel
theorem dX9_findBest_86 : decode cX9_findBest 86 = .ok (.iadd, 1) := by decide +kernel
theorem dX9_findBest_87 : decode cX9_findBest 87 = .ok (.istore_n 3, 1) := by decide +kernel
theorem dX9_findBest_88 : decode cX9_findBest 88 = .ok (.iinc 4 1, 3) := by decide +kernel
theorem dX9_findBest_91 : decode cX9_findBest 91 = .ok (.goto (-46), 3) := by decide +kernel
theorem dX9_findBest_94 : decode cX9_findBest 94 = .ok (.iload_n 2, 1) := by decide +kernel
theorem dX9_findBest_95 : decode cX9_findBest 95 = .ok (.aload_n 0, 1) := by decide +kernel
theorem dX9_findBest_96 : decode cX9_findBest 96 = .ok (.getfield 390, 3) := by decide +kernel
theorem dX9_findBest_99 : decode cX9_findBest 99 = .ok (.if_icmp .lt 37, 3) := by decide +kernel
theorem dX9_findBest_102 : decode cX9_findBest 102 = .ok (.iload_n 2, 1) := by decide +kernel
theorem dX9_findBest_103 : decode cX9_findBest 103 = .ok (.aload_n 0, 1) := by decide +kernel
theorem dX9_findBest_104 : decode cX9_findBest 104 = .ok (.getfield 390, 3) := by decide +kernel
theorem dX9_findBest_107 : decode cX9_findBest 107 = .ok (.if_icmp .ne 14, 3) := by decide +kernel
theorem dX9_findBest_110 : decode cX9_findBest 110 = .ok (.iload_n 3, 1) := by decide +kernel
theorem dX9_findBest_111 : decode cX9_findBest 111 = .ok (.aload_n 0, 1) := by decide +kernel
theorem dX9_findBest_112 : decode cX9_findBest 112 = .ok (.getfield 393, 3) := by decide +kernel
theorem dX9_findBest_115 : decode cX9_findBest 115 = .ok (.if_icmp .lt 6, 3) := by decide +kernel
theorem dX9_findBest_118 : decode cX9_findBest 118 = .ok (.goto 18, 3) := by decide +kernel
theorem dX9_findBest_121 : decode cX9_findBest 121 = .ok (.aload_n 0, 1) := by decide +kernel
theorem dX9_findBest_122 : decode cX9_findBest 122 = .ok (.iload_n 1, 1) := by decide +kernel
theorem dX9_findBest_123 : decode cX9_findBest 123 = .ok (.putfield 387, 3) := by decide +kernel
theorem dX9_findBest_126 : decode cX9_findBest 126 = .ok (.aload_n 0, 1) := by decide +kernel
theorem dX9_findBest_127 : decode cX9_findBest 127 = .ok (.iload_n 2, 1) := by decide +kernel
theorem dX9_findBest_128 : decode cX9_findBest 128 = .ok (.putfield 390, 3) := by decide +kernel
theorem dX9_findBest_131 : decode cX9_findBest 131 = .ok (.aload_n 0, 1) := by decide +kernel
theorem dX9_findBest_132 : decode cX9_findBest 132 = .ok (.iload_n 3, 1) := by decide +kernel
theorem dX9_findBest_133 : decode cX9_findBest 133 = .ok (.putfield 393, 3) := by decide +kernel
theorem dX9_findBest_136 : decode cX9_findBest 136 = .ok (.iinc 1 1, 3) := by decide +kernel
theorem dX9_findBest_139 : decode cX9_findBest 139 = .ok (.goto (-122), 3) := by decide +kernel
theorem dX9_findBest_142 : decode cX9_findBest 142 = .ok (.return_, 1) := by decide +kernel
theorem dX9_best_0 : decode cX9_best 0 = .ok (.iload_n 1, 1) := by decide +kernel
theorem dX9_best_1 : decode cX9_best 1 = .ok (.i2l, 1) := by decide +kernel
theorem dX9_best_2 : decode cX9_best 2 = .ok (.lconst 0, 1) := by decide +kernel
theorem dX9_best_3 : decode cX9_best 3 = .ok (.ldc2_w 262, 3) := by decide +kernel
theorem dX9_best_6 : decode cX9_best 6 = .ok (.invokestatic 203, 3) := by decide +kernel
theorem dX9_best_9 : decode cX9_best 9 = .ok (.ifCond .ne 10, 3) := by decide +kernel
theorem dX9_best_12 : decode cX9_best 12 = .ok (.aload_n 0, 1) := by decide +kernel
theorem dX9_best_13 : decode cX9_best 13 = .ok (.bipush (-2), 2) := by decide +kernel
theorem dX9_best_15 : decode cX9_best 15 = .ok (.invokevirtual 192, 3) := by decide +kernel
theorem dX9_best_18 : decode cX9_best 18 = .ok (.ireturn, 1) := by decide +kernel
theorem dX9_best_19 : decode cX9_best 19 = .ok (.aload_n 0, 1) := by decide +kernel
theorem dX9_best_20 : decode cX9_best 20 = .ok (.invokevirtual 399, 3) := by decide +kernel
theorem dX9_best_23 : decode cX9_best 23 = .ok (.iload_n 1, 1) := by decide +kernel
theorem dX9_best_24 : decode cX9_best 24 = .ok (.ifCond .ne 10, 3) := by decide +kernel
theorem dX9_best_27 : decode cX9_best 27 = .ok (.aload_n 0, 1) := by decide +kernel
theorem dX9_best_28 : decode cX9_best 28 = .ok (.getfield 387, 3) := by decide +kernel
theorem dX9_best_31 : decode cX9_best 31 = .ok (.goto 19, 3) := by decide +kernel
theorem dX9_best_34 : decode cX9_best 34 = .ok (.iload_n 1, 1) := by decide +kernel
theorem dX9_best_35 : decode cX9_best 35 = .ok (.iconst 1, 1) := by decide +kernel
theorem dX9_best_36 : decode cX9_best 36 = .ok (.if_icmp .ne 10, 3) := by decide +kernel
theorem dX9_best_39 : decode cX9_best 39 = .ok (.aload_n 0, 1) := by decide +kernel
theorem dX9_best_40 : decode cX9_best 40 = .ok (.getfield 390, 3) := by decide +kernel
theorem dX9_best_43 : decode cX9_best 43 = .ok (.goto 7, 3) := by decide +kernel
theorem dX9_best_46 : decode cX9_best 46 = .ok (.aload_n 0, 1) := by decide +kernel
theorem dX9_best_47 : decode cX9_best 47 = .ok (.getfield 393, 3) := by decide +kernel
theorem dX9_best_50 : decode cX9_best 50 = .ok (.ireturn, 1) := by decide +kernel
theorem dX9_put_0 : decode cX9_put 0 = .ok (.iload_n 1, 1) := by decide +kernel
theorem dX9_put_1 : decode cX9_put 1 = .ok (.i2l, 1) := by decide +kernel
theorem dX9_put_2 : decode cX9_put 2 = .ok (.ldc2_w 402, 3) := by decide +kernel
theorem dX9_put_5 : decode cX9_put 5 = .ok (.ldc2_w 404, 3) := by decide +kernel
theorem dX9_put_8 : decode cX9_put 8 = .ok (.invokestatic 188, 3) := by decide +kernel
theorem dX9_put_11 : decode cX9_put 11 = .ok (.istore_n 2, 1) := by decide +kernel
theorem dX9_put_12 : decode cX9_put 12 = .ok (.iload_n 2, 1) := by decide +kernel
theorem dX9_put_13 : decode cX9_put 13 = .ok (.ifCond .ne 15, 3) := by decide +kernel
theorem dX9_put_16 : decode cX9_put 16 = .ok (.aload_n 0, 1) := by decide +kernel
theorem dX9_put_17 : decode cX9_put 17 = .ok (.getfield 406, 3) := by decide +kernel
theorem dX9_put_20 : decode cX9_put 20 = .ok (.bipush 12, 2) := by decide +kernel
theorem dX9_put_22 : decode cX9_put 22 = .ok (.if_icmp .ne 6, 3) := by decide +kernel
theorem dX9_put_25 : decode cX9_put 25 = .ok (.bipush (-6), 2) := by decide +kernel
theorem dX9_put_27 : decode cX9_put 27 = .ok (.istore_n 2, 1) := by decide +kernel
theorem dX9_put_28 : decode cX9_put 28 = .ok (.iload_n 2, 1) := by decide +kernel
theorem dX9_put_29 : decode cX9_put 29 = .ok (.ifCond .eq 9, 3) := by decide +kernel
theorem dX9_put_32 : decode cX9_put 32 = .ok (.aload_n 0, 1) := by decide +kernel
theorem dX9_put_33 : decode cX9_put 33 = .ok (.iload_n 2, 1) := by decide +kernel
theorem dX9_put_34 : decode cX9_put 34 = .ok (.invokevirtual 192, 3) := by decide +kernel
theorem dX9_put_37 : decode cX9_put 37 = .ok (.ireturn, 1) := by decide +kernel
theorem dX9_put_38 : decode cX9_put 38 = .ok (.aload_n 0, 1) := by decide +kernel
theorem dX9_put_39 : decode cX9_put 39 = .ok (.getfield 180, 3) := by decide +kernel
theorem dX9_put_42 : decode cX9_put 42 = .ok (.aload_n 0, 1) := by decide +kernel
theorem dX9_put_43 : decode cX9_put 43 = .ok (.getfield 406, 3) := by decide +kernel
theorem dX9_put_46 : decode cX9_put 46 = .ok (.iload_n 1, 1) := by decide +kernel
theorem dX9_put_47 : decode cX9_put 47 = .ok (.iastore, 1) := by decide +kernel
theorem dX9_put_48 : decode cX9_put 48 = .ok (.aload_n 0, 1) := by decide +kernel
theorem dX9_put_49 : decode cX9_put 49 = .ok (.dup, 1) := by decide +kernel
theorem dX9_put_50 : decode cX9_put 50 = .ok (.getfield 406, 3) := by decide +kernel
theorem dX9_put_53 : decode cX9_put 53 = .ok (.iconst 1, 1) := by decide +kernel
theorem dX9_put_54 : decode cX9_put 54 = .ok (.iadd, 1) := by decide +kernel
theorem dX9_put_55 : decode cX9_put 55 = .ok (.putfield 406, 3) := by decide +kernel
theorem dX9_put_58 : decode cX9_put 58 = .ok (.aload_n 0, 1) := by decide +kernel
theorem dX9_put_59 : decode cX9_put 59 = .ok (.getfield 406, 3) := by decide +kernel
theorem dX9_put_62 : decode cX9_put 62 = .ok (.ireturn, 1) := by decide +kernel
theorem dX9_judge_0 : decode cX9_judge 0 = .ok (.iload_n 1, 1) := by decide +kernel
theorem dX9_judge_1 : decode cX9_judge 1 = .ok (.i2l, 1) := by decide +kernel
theorem dX9_judge_2 : decode cX9_judge 2 = .ok (.lconst 0, 1) := by decide +kernel
theorem dX9_judge_3 : decode cX9_judge 3 = .ok (.lconst 1, 1) := by decide +kernel
theorem dX9_judge_4 : decode cX9_judge 4 = .ok (.invokestatic 203, 3) := by decide +kernel
theorem dX9_judge_7 : decode cX9_judge 7 = .ok (.ifCond .ne 10, 3) := by decide +kernel
theorem dX9_judge_10 : decode cX9_judge 10 = .ok (.aload_n 0, 1) := by decide +kernel
theorem dX9_judge_11 : decode cX9_judge 11 = .ok (.bipush (-2), 2) := by decide +kernel
theorem dX9_judge_13 : decode cX9_judge 13 = .ok (.invokevirtual 192, 3) := by decide +kernel
theorem dX9_judge_16 : decode cX9_judge 16 = .ok (.ireturn, 1) := by decide +kernel
theorem dX9_judge_17 : decode cX9_judge 17 = .ok (.bipush (-9), 2) := by decide +kernel
theorem dX9_judge_19 : decode cX9_judge 19 = .ok (.istore_n 2, 1) := by decide +kernel
theorem dX9_judge_20 : decode cX9_judge 20 = .ok (.iconst 0, 1) := by decide +kernel
theorem dX9_judge_21 : decode cX9_judge 21 = .ok (.istore_n 3, 1) := by decide +kernel
theorem dX9_judge_22 : decode cX9_judge 22 = .ok (.iconst 0, 1) := by decide +kernel
theorem dX9_judge_23 : decode cX9_judge 23 = .ok (.istore 4, 2) := by decide +kernel
theorem dX9_judge_25 : decode cX9_judge 25 = .ok (.iconst 0, 1) := by decide +kernel
theorem dX9_judge_26 : decode cX9_judge 26 = .ok (.istore 5, 2) := by decide +kernel
theorem dX9_judge_28 : decode cX9_judge 28 = .ok (.iconst 0, 1) := by decide +kernel
theorem dX9_judge_29 : decode cX9_judge 29 = .ok (.istore 6, 2) := by decide +kernel
theorem dX9_judge_31 : decode cX9_judge 31 = .ok (.iload 6, 2) := by decide +kernel
theorem dX9_judge_33 : decode cX9_judge 33 = .ok (.aload_n 0, 1) := by decide +kernel
theorem dX9_judge_34 : decode cX9_judge 34 = .ok (.getfield 406, 3) := by decide +kernel
theorem dX9_judge_37 : decode cX9_judge 37 = .ok (.if_icmp .ge 106, 3) := by decide +kernel
theorem dX9_judge_40 : decode cX9_judge 40 = .ok (.iload_n 2, 1) := by decide +kernel
theorem dX9_judge_41 : decode cX9_judge 41 = .ok (.ifCond .ge 102, 3) := by decide +kernel
theorem dX9_judge_44 : decode cX9_judge 44 = .ok (.aload_n 0, 1) := by decide +kernel
theorem dX9_judge_45 : decode cX9_judge 45 = .ok (.getfield 180, 3) := by decide +kernel
theorem dX9_judge_48 : decode cX9_judge 48 = .ok (.iload 6, 2) := by decide +kernel
theorem dX9_judge_50 : decode cX9_judge 50 = .ok (.iaload, 1) := by decide +kernel
theorem dX9_judge_51 : decode cX9_judge 51 = .ok (.istore 7, 2) := by decide +kernel
theorem dX9_judge_53 : decode cX9_judge 53 = .ok (.iload 7, 2) := by decide +kernel
theorem dX9_judge_55 : decode cX9_judge 55 = .ok (.i2l, 1) := by decide +kernel
theorem dX9_judge_56 : decode cX9_judge 56 = .ok (.lconst 0, 1) := by decide +kernel
theorem dX9_judge_57 : decode cX9_judge 57 = .ok (.aload_n 0, 1) := by decide +kernel
theorem dX9_judge_58 : decode cX9_judge 58 = .ok (.getfield 384, 3) := by decide +kernel
theorem dX9_judge_61 : decode cX9_judge 61 = .ok (.iconst 1, 1) := by decide +kernel
theorem dX9_judge_62 : decode cX9_judge 62 = .ok (.isub, 1) := by decide +kernel
theorem dX9_judge_63 : decode cX9_judge 63 = .ok (.i2l, 1) := by decide +kernel
theorem dX9_judge_64 : decode cX9_judge 64 = .ok (.invokestatic 203, 3) := by decide +kernel
theorem dX9_judge_67 : decode cX9_judge 67 = .ok (.ifCond .eq 33, 3) := by decide +kernel
theorem dX9_judge_70 : decode cX9_judge 70 = .ok (.iload 5, 2) := by decide +kernel
theorem dX9_judge_72 : decode cX9_judge 72 = .ok (.iload 7, 2) := by decide +kernel
theorem dX9_judge_74 : decode cX9_judge 74 = .ok (.ishr, 1) := by decide +kernel
theorem dX9_judge_75 : decode cX9_judge 75 = .ok (.iconst 1, 1) := by decide +kernel
theorem dX9_judge_76 : decode cX9_judge 76 = .ok (.iand, 1) := by decide +kernel
theorem dX9_judge_77 : decode cX9_judge 77 = .ok (.iconst 1, 1) := by decide +kernel
theorem dX9_judge_78 : decode cX9_judge 78 = .ok (.if_icmp .eq 22, 3) := by decide +kernel
theorem dX9_judge_81 : decode cX9_judge 81 = .ok (.iload_n 3, 1) := by decide +kernel
theorem dX9_judge_82 : decode cX9_judge 82 = .ok (.aload_n 0, 1) := by decide +kernel
theorem dX9_judge_83 : decode cX9_judge 83 = .ok (.getfield 171, 3) := by decide +kernel
theorem dX9_judge_86 : decode cX9_judge 86 = .ok (.iload 7, 2) := by decide +kernel
theorem dX9_judge_88 : decode cX9_judge 88 = .ok (.iaload, 1) := by decide +kernel
theorem dX9_judge_89 : decode cX9_judge 89 = .ok (.iadd, 1) := by decide +kernel
theorem dX9_judge_90 : decode cX9_judge 90 = .ok (.aload_n 0, 1) := by decide +kernel
theorem dX9_judge_91 : decode cX9_judge 91 = .ok (.getfield 174, 3) := by decide +kernel
theorem dX9_judge_94 : decode cX9_judge 94 = .ok (.iload 7, 2) := by decide +kernel
theorem dX9_judge_96 : decode cX9_judge 96 = .ok (.iaload, 1) := by decide +kernel
theorem dX9_judge_97 : decode cX9_judge 97 = .ok (.if_icmp .le 9, 3) := by decide +kernel
theorem dX9_judge_100 : decode cX9_judge 100 = .ok (.iload 6, 2) := by decide +kernel
theorem dX9_judge_102 : decode cX9_judge 102 = .ok (.istore_n 2, 1) := by decide +kernel
theorem dX9_judge_103 : decode cX9_judge 103 = .ok (.goto 34, 3) := by decide +kernel
theorem dX9_judge_106 : decode cX9_judge 106 = .ok (.iload 5, 2) := by decide +kernel
theorem dX9_judge_108 : decode cX9_judge 108 = .ok (.iconst 1, 1) := by decide +kernel
theorem dX9_judge_109 : decode cX9_judge 109 = .ok (.iload 7, 2) := by decide +kernel
theorem dX9_judge_111 : decode cX9_judge 111 = .ok (.ishl, 1) := by decide +kernel
theorem dX9_judge_112 : decode cX9_judge 112 = .ok (.ior, 1) := by decide +kernel
theorem dX9_judge_113 : decode cX9_judge 113 = .ok (.istore 5, 2) := by decide +kernel
theorem dX9_judge_115 : decode cX9_judge 115 = .ok (.iload_n 3, 1) := by decide +kernel
theorem dX9_judge_116 : decode cX9_judge 116 = .ok (.aload_n 0, 1) := by decide +kernel
theorem dX9_judge_117 : decode cX9_judge 117 = .ok (.getfield 171, 3) := by decide +kernel
theorem dX9_judge_120 : decode cX9_judge 120 = .ok (.iload 7, 2) := by decide +kernel
theorem dX9_judge_122 : decode cX9_judge 122 = .ok (.iaload, 1) := by decide +kernel
theorem dX9_judge_123 : decode cX9_judge 123 = .ok (.iadd, 1) := by decide +kernel
theorem dX9_judge_124 : decode cX9_judge 124 = .ok (.istore_n 3, 1) := by decide +kernel
theorem dX9_judge_125 : decode cX9_judge 125 = .ok (.iload 4, 2) := by decide +kernel
theorem dX9_judge_127 : decode cX9_judge 127 = .ok (.aload_n 0, 1) := by decide +kernel
theorem dX9_judge_128 : decode cX9_judge 128 = .ok (.getfield 177, 3) := by decide +kernel
theorem dX9_judge_131 : decode cX9_judge 131 = .ok (.iload 7, 2) := by decide +kernel
theorem dX9_judge_133 : decode cX9_judge 133 = .ok (.iaload, 1) := by decide +kernel
theorem dX9_judge_134 : decode cX9_judge 134 = .ok (.iadd, 1) := by decide +kernel
theorem dX9_judge_135 : decode cX9_judge 135 = .ok (.istore 4, 2) := by decide +kernel
theorem dX9_judge_137 : decode cX9_judge 137 = .ok (.iinc 6 1, 3) := by decide +kernel
theorem dX9_judge_140 : decode cX9_judge 140 = .ok (.goto (-109), 3) := by decide +kernel
theorem dX9_judge_143 : decode cX9_judge 143 = .ok (.iload_n 1, 1) := by decide +kernel
theorem dX9_judge_144 : decode cX9_judge 144 = .ok (.ifCond .ne 5, 3) := by decide +kernel
theorem dX9_judge_147 : decode cX9_judge 147 = .ok (.iload_n 2, 1) := by decide +kernel
theorem dX9_judge_148 : decode cX9_judge 148 = .ok (.ireturn, 1) := by decide +kernel
theorem dX9_judge_149 : decode cX9_judge 149 = .ok (.aload_n 0, 1) := by decide +kernel
theorem dX9_judge_150 : decode cX9_judge 150 = .ok (.iconst 0, 1) := by decide +kernel
theorem dX9_judge_151 : decode cX9_judge 151 = .ok (.putfield 406, 3) := by decide +kernel
theorem dX9_judge_154 : decode cX9_judge 154 = .ok (.aload_n 0, 1) := by decide +kernel
theorem dX9_judge_155 : decode cX9_judge 155 = .ok (.invokevirtual 399, 3) := by decide +kernel
theorem dX9_judge_158 : decode cX9_judge 158 = .ok (.aload_n 0, 1) := by decide +kernel
theorem dX9_judge_159 : decode cX9_judge 159 = .ok (.getfield 390, 3) := by decide +kernel
theorem dX9_judge_162 : decode cX9_judge 162 = .ok (.iload 4, 2) := by decide +kernel
theorem dX9_judge_164 : decode cX9_judge 164 = .ok (.isub, 1) := by decide +kernel
theorem dX9_judge_165 : decode cX9_judge 165 = .ok (.ireturn, 1) := by decide +kernel
theorem dX9_waiting_0 : decode cX9_waiting 0 = .ok (.aload_n 0, 1) := by decide +kernel
theorem dX9_waiting_1 : decode cX9_waiting 1 = .ok (.iload_n 1, 1) := by decide +kernel
theorem dX9_waiting_2 : decode cX9_waiting 2 = .ok (.invokevirtual 196, 3) := by decide +kernel
theorem dX9_waiting_5 : decode cX9_waiting 5 = .ok (.ifCond .ne 9, 3) := by decide +kernel
theorem dX9_waiting_8 : decode cX9_waiting 8 = .ok (.aload_n 0, 1) := by decide +kernel
theorem dX9_waiting_9 : decode cX9_waiting 9 = .ok (.iconst (-1), 1) := by decide +kernel
theorem dX9_waiting_10 : decode cX9_waiting 10 = .ok (.invokevirtual 192, 3) := by decide +kernel
theorem dX9_waiting_13 : decode cX9_waiting 13 = .ok (.ireturn, 1) := by decide +kernel
theorem dX9_waiting_14 : decode cX9_waiting 14 = .ok (.iconst 0, 1) := by decide +kernel
theorem dX9_waiting_15 : decode cX9_waiting 15 = .ok (.istore_n 2, 1) := by decide +kernel
theorem dX9_waiting_16 : decode cX9_waiting 16 = .ok (.iconst 0, 1) := by decide +kernel
theorem dX9_waiting_17 : decode cX9_waiting 17 = .ok (.istore_n 3, 1) := by decide +kernel
theorem dX9_waiting_18 : decode cX9_waiting 18 = .ok (.iload_n 3, 1) := by decide +kernel
theorem dX9_waiting_19 : decode cX9_waiting 19 = .ok (.aload_n 0, 1) := by decide +kernel
theorem dX9_waiting_20 : decode cX9_waiting 20 = .ok (.getfield 259, 3) := by decide +kernel
theorem dX9_waiting_23 : decode cX9_waiting 23 = .ok (.if_icmp .ge 36, 3) := by decide +kernel
theorem dX9_waiting_26 : decode cX9_waiting 26 = .ok (.iload_n 2, 1) := by decide +kernel
theorem dX9_waiting_27 : decode cX9_waiting 27 = .ok (.aload_n 0, 1) := by decide +kernel
theorem dX9_waiting_28 : decode cX9_waiting 28 = .ok (.getfield 92, 3) := by decide +kernel
theorem dX9_waiting_31 : decode cX9_waiting 31 = .ok (.iload_n 3, 1) := by decide +kernel
theorem dX9_waiting_32 : decode cX9_waiting 32 = .ok (.iaload, 1) := by decide +kernel
theorem dX9_waiting_33 : decode cX9_waiting 33 = .ok (.ifCond .ne 17, 3) := by decide +kernel
theorem dX9_waiting_36 : decode cX9_waiting 36 = .ok (.aload_n 0, 1) := by decide +kernel
theorem dX9_waiting_37 : decode cX9_waiting 37 = .ok (.getfield 95, 3) := by decide +kernel
theorem dX9_waiting_40 : decode cX9_waiting 40 = .ok (.iload_n 3, 1) := by decide +kernel
theorem dX9_waiting_41 : decode cX9_waiting 41 = .ok (.iaload, 1) := by decide +kernel
theorem dX9_waiting_42 : decode cX9_waiting 42 = .ok (.iload_n 1, 1) := by decide +kernel
theorem dX9_waiting_43 : decode cX9_waiting 43 = .ok (.if_icmp .ne 7, 3) := by decide +kernel
theorem dX9_waiting_46 : decode cX9_waiting 46 = .ok (.iconst 1, 1) := by decide +kernel
theorem dX9_waiting_47 : decode cX9_waiting 47 = .ok (.goto 4, 3) := by decide +kernel
theorem dX9_waiting_50 : decode cX9_waiting 50 = .ok (.iconst 0, 1) := by decide +kernel
theorem dX9_waiting_51 : decode cX9_waiting 51 = .ok (.iadd, 1) := by decide +kernel
theorem dX9_waiting_52 : decode cX9_waiting 52 = .ok (.istore_n 2, 1) := by decide +kernel
theorem dX9_waiting_53 : decode cX9_waiting 53 = .ok (.iinc 3 1, 3) := by decide +kernel
theorem dX9_waiting_56 : decode cX9_waiting 56 = .ok (.goto (-38), 3) := by decide +kernel
theorem dX9_waiting_59 : decode cX9_waiting 59 = .ok (.iload_n 2, 1) := by decide +kernel
theorem dX9_waiting_60 : decode cX9_waiting 60 = .ok (.ireturn, 1) := by decide +kernel
theorem dX9_count_0 : decode cX9_count 0 = .ok (.iload_n 1, 1) := by decide +kernel
theorem dX9_count_1 : decode cX9_count 1 = .ok (.i2l, 1) := by decide +kernel
theorem dX9_count_2 : decode cX9_count 2 = .ok (.ldc2_w 409, 3) := by decide +kernel
theorem dX9_count_5 : decode cX9_count 5 = .ok (.ldc2_w 411, 3) := by decide +kernel
theorem dX9_count_8 : decode cX9_count 8 = .ok (.invokestatic 203, 3) := by decide +kernel
theorem dX9_count_11 : decode cX9_count 11 = .ok (.ifCond .eq 13, 3) := by decide +kernel
theorem dX9_count_14 : decode cX9_count 14 = .ok (.aload_n 0, 1) := by decide +kernel
theorem dX9_count_15 : decode cX9_count 15 = .ok (.getfield 7, 3) := by decide +kernel
theorem dX9_count_18 : decode cX9_count 18 = .ok (.iload_n 1, 1) := by decide +kernel
theorem dX9_count_19 : decode cX9_count 19 = .ok (.bipush 10, 2) := by decide +kernel
theorem dX9_count_21 : decode cX9_count 21 = .ok (.isub, 1) := by decide +kernel
theorem dX9_count_22 : decode cX9_count 22 = .ok (.iaload, 1) := by decide +kernel
theorem dX9_count_23 : decode cX9_count 23 = .ok (.ireturn, 1) := by decide +kernel
theorem dX9_count_24 : decode cX9_count 24 = .ok (.iconst 0, 1) := by decide +kernel
theorem dX9_count_25 : decode cX9_count 25 = .ok (.istore_n 2, 1) := by decide +kernel
theorem dX9_count_26 : decode cX9_count 26 = .ok (.iload_n 1, 1) := by decide +kernel
theorem dX9_count_27 : decode cX9_count 27 = .ok (.tableswitch 207 0 18 #[89, 94, 99, 104, 109, 114, 119, 119, 119, 157, 192, 207, 207, 207, 207, 207, 207, 197, 202], 89) := by decide +kernel
theorem dX9_count_116 : decode cX9_count 116 = .ok (.aload_n 0, 1) := by decide +kernel
theorem dX9_count_117 : decode cX9_count 117 = .ok (.getfield 207, 3) := by decide +kernel
theorem dX9_count_120 : decode cX9_count 120 = .ok (.ireturn, 1) := by decide +kernel
theorem dX9_count_121 : decode cX9_count 121 = .ok (.aload_n 0, 1) := by decide +kernel
theorem dX9_count_122 : decode cX9_count 122 = .ok (.getfield 183, 3) := by decide +kernel
theorem dX9_count_125 : decode cX9_count 125 = .ok (.ireturn, 1) := by decide +kernel
theorem dX9_count_126 : decode cX9_count 126 = .ok (.aload_n 0, 1) := by decide +kernel
theorem dX9_count_127 : decode cX9_count 127 = .ok (.getfield 200, 3) := by decide +kernel
theorem dX9_count_130 : decode cX9_count 130 = .ok (.ireturn, 1) := by decide +kernel
theorem dX9_count_131 : decode cX9_count 131 = .ok (.aload_n 0, 1) := by decide +kernel
theorem dX9_count_132 : decode cX9_count 132 = .ok (.getfield 226, 3) := by decide +kernel
theorem dX9_count_135 : decode cX9_count 135 = .ok (.ireturn, 1) := by decide +kernel
theorem dX9_count_136 : decode cX9_count 136 = .ok (.aload_n 0, 1) := by decide +kernel
theorem dX9_count_137 : decode cX9_count 137 = .ok (.getfield 220, 3) := by decide +kernel
theorem dX9_count_140 : decode cX9_count 140 = .ok (.ireturn, 1) := by decide +kernel
theorem dX9_count_141 : decode cX9_count 141 = .ok (.aload_n 0, 1) := by decide +kernel
theorem dX9_count_142 : decode cX9_count 142 = .ok (.getfield 259, 3) := by decide +kernel
theorem dX9_count_145 : decode cX9_count 145 = .ok (.ireturn, 1) := by decide +kernel
theorem dX9_count_146 : decode cX9_count 146 = .ok (.iconst 0, 1) := by decide +kernel
theorem dX9_count_147 : decode cX9_count 147 = .ok (.istore_n 3, 1) := by decide +kernel
theorem dX9_count_148 : decode cX9_count 148 = .ok (.iload_n 3, 1) := by decide +kernel
theorem dX9_count_149 : decode cX9_count 149 = .ok (.aload_n 0, 1) := by decide +kernel
theorem dX9_count_150 : decode cX9_count 150 = .ok (.getfield 259, 3) := by decide +kernel
theorem dX9_count_153 : decode cX9_count 153 = .ok (.if_icmp .ge 29, 3) := by decide +kernel
theorem dX9_count_156 : decode cX9_count 156 = .ok (.iload_n 2, 1) := by decide +kernel
theorem dX9_count_157 : decode cX9_count 157 = .ok (.aload_n 0, 1) := by decide +kernel
theorem dX9_count_158 : decode cX9_count 158 = .ok (.getfield 92, 3) := by decide +kernel
theorem dX9_count_161 : decode cX9_count 161 = .ok (.iload_n 3, 1) := by decide +kernel
theorem dX9_count_162 : decode cX9_count 162 = .ok (.iaload, 1) := by decide +kernel
theorem dX9_count_163 : decode cX9_count 163 = .ok (.iload_n 1, 1) := by decide +kernel
theorem dX9_count_164 : decode cX9_count 164 = .ok (.iconst 4, 1) := by decide +kernel
theorem dX9_count_165 : decode cX9_count 165 = .ok (.isub, 1) := by decide +kernel
theorem dX9_count_166 : decode cX9_count 166 = .ok (.if_icmp .ne 7, 3) := by decide +kernel
theorem dX9_count_169 : decode cX9_count 169 = .ok (.iconst 1, 1) := by decide +kernel
theorem dX9_count_170 : decode cX9_count 170 = .ok (.goto 4, 3) := by decide +kernel
theorem dX9_count_173 : decode cX9_count 173 = .ok (.iconst 0, 1) := by decide +kernel
theorem dX9_count_174 : decode cX9_count 174 = .ok (.iadd, 1) := by decide +kernel
theorem dX9_count_175 : decode cX9_count 175 = .ok (.istore_n 2, 1) := by decide +kernel
theorem dX9_count_176 : decode cX9_count 176 = .ok (.iinc 3 1, 3) := by decide +kernel
theorem dX9_count_179 : decode cX9_count 179 = .ok (.goto (-31), 3) := by decide +kernel
theorem dX9_count_182 : decode cX9_count 182 = .ok (.iload_n 2, 1) := by decide +kernel
theorem dX9_count_183 : decode cX9_count 183 = .ok (.ireturn, 1) := by decide +kernel
theorem dX9_count_184 : decode cX9_count 184 = .ok (.iconst 0, 1) := by decide +kernel
theorem dX9_count_185 : decode cX9_count 185 = .ok (.istore_n 3, 1) := by decide +kernel
theorem dX9_count_186 : decode cX9_count 186 = .ok (.iload_n 3, 1) := by decide +kernel
theorem dX9_count_187 : decode cX9_count 187 = .ok (.aload_n 0, 1) := by decide +kernel
theorem dX9_count_188 : decode cX9_count 188 = .ok (.getfield 259, 3) := by decide +kernel
theorem dX9_count_191 : decode cX9_count 191 = .ok (.if_icmp .ge 26, 3) := by decide +kernel
theorem dX9_count_194 : decode cX9_count 194 = .ok (.iload_n 2, 1) := by decide +kernel
theorem dX9_count_195 : decode cX9_count 195 = .ok (.aload_n 0, 1) := by decide +kernel
theorem dX9_count_196 : decode cX9_count 196 = .ok (.getfield 113, 3) := by decide +kernel
theorem dX9_count_199 : decode cX9_count 199 = .ok (.iload_n 3, 1) := by decide +kernel
theorem dX9_count_200 : decode cX9_count 200 = .ok (.baload, 1) := by decide +kernel
theorem dX9_count_201 : decode cX9_count 201 = .ok (.ifCond .eq 7, 3) := by decide +kernel
theorem dX9_count_204 : decode cX9_count 204 = .ok (.iconst 1, 1) := by decide +kernel
theorem dX9_count_205 : decode cX9_count 205 = .ok (.goto 4, 3) := by decide +kernel
theorem dX9_count_208 : decode cX9_count 208 = .ok (.iconst 0, 1) := by decide +kernel
theorem dX9_count_209 : decode cX9_count 209 = .ok (.iadd, 1) := by decide +kernel
theorem dX9_count_210 : decode cX9_count 210 = .ok (.istore_n 2, 1) := by decide +kernel
theorem dX9_count_211 : decode cX9_count 211 = .ok (.iinc 3 1, 3) := by decide +kernel
theorem dX9_count_214 : decode cX9_count 214 = .ok (.goto (-28), 3) := by decide +kernel
theorem dX9_count_217 : decode cX9_count 217 = .ok (.iload_n 2, 1) := by decide +kernel
theorem dX9_count_218 : decode cX9_count 218 = .ok (.ireturn, 1) := by decide +kernel
theorem dX9_count_219 : decode cX9_count 219 = .ok (.aload_n 0, 1) := by decide +kernel
theorem dX9_count_220 : decode cX9_count 220 = .ok (.getfield 270, 3) := by decide +kernel
theorem dX9_count_223 : decode cX9_count 223 = .ok (.ireturn, 1) := by decide +kernel
theorem dX9_count_224 : decode cX9_count 224 = .ok (.aload_n 0, 1) := by decide +kernel
theorem dX9_count_225 : decode cX9_count 225 = .ok (.getfield 406, 3) := by decide +kernel
theorem dX9_count_228 : decode cX9_count 228 = .ok (.ireturn, 1) := by decide +kernel
theorem dX9_count_229 : decode cX9_count 229 = .ok (.aload_n 0, 1) := by decide +kernel
theorem dX9_count_230 : decode cX9_count 230 = .ok (.getfield 298, 3) := by decide +kernel
theorem dX9_count_233 : decode cX9_count 233 = .ok (.ireturn, 1) := by decide +kernel
theorem dX9_count_234 : decode cX9_count 234 = .ok (.bipush (-9), 2) := by decide +kernel
theorem dX9_count_236 : decode cX9_count 236 = .ok (.ireturn, 1) := by decide +kernel
theorem dJ0_length_8abf5_0 : decode cJ0_length_8abf5 0 = .ok (.aload_n 0, 1) := by decide +kernel
theorem dJ0_length_8abf5_1 : decode cJ0_length_8abf5 1 = .ok (.getfield 9, 3) := by decide +kernel
theorem dJ0_length_8abf5_4 : decode cJ0_length_8abf5 4 = .ok (.arraylength, 1) := by decide +kernel
theorem dJ0_length_8abf5_5 : decode cJ0_length_8abf5 5 = .ok (.aload_n 0, 1) := by decide +kernel
theorem dJ0_length_8abf5_6 : decode cJ0_length_8abf5 6 = .ok (.invokevirtual 335, 3) := by decide +kernel
theorem dJ0_length_8abf5_9 : decode cJ0_length_8abf5 9 = .ok (.ishr, 1) := by decide +kernel
theorem dJ0_length_8abf5_10 : decode cJ0_length_8abf5 10 = .ok (.ireturn, 1) := by decide +kernel
theorem dJ0_indexOf_0f7a4_0 : decode cJ0_indexOf_0f7a4 0 = .ok (.aload_n 0, 1) := by decide +kernel
theorem dJ0_indexOf_0f7a4_1 : decode cJ0_indexOf_0f7a4 1 = .ok (.iload_n 1, 1) := by decide +kernel
theorem dJ0_indexOf_0f7a4_2 : decode cJ0_indexOf_0f7a4 2 = .ok (.iconst 0, 1) := by decide +kernel
theorem dJ0_indexOf_0f7a4_3 : decode cJ0_indexOf_0f7a4 3 = .ok (.invokevirtual 633, 3) := by decide +kernel
theorem dJ0_indexOf_0f7a4_6 : decode cJ0_indexOf_0f7a4 6 = .ok (.ireturn, 1) := by decide +kernel
theorem dJ0_indexOf_7cf53_0 : decode cJ0_indexOf_7cf53 0 = .ok (.aload_n 0, 1) := by decide +kernel
theorem dJ0_indexOf_7cf53_1 : decode cJ0_indexOf_7cf53 1 = .ok (.invokevirtual 492, 3) := by decide +kernel
theorem dJ0_indexOf_7cf53_4 : decode cJ0_indexOf_7cf53 4 = .ok (.ifCond .eq 19, 3) := by decide +kernel
theorem dJ0_indexOf_7cf53_7 : decode cJ0_indexOf_7cf53 7 = .ok (.aload_n 0, 1) := by decide +kernel
theorem dJ0_indexOf_7cf53_8 : decode cJ0_indexOf_7cf53 8 = .ok (.getfield 9, 3) := by decide +kernel
theorem dJ0_indexOf_7cf53_11 : decode cJ0_indexOf_7cf53 11 = .ok (.iload_n 1, 1) := by decide +kernel
theorem dJ0_indexOf_7cf53_12 : decode cJ0_indexOf_7cf53 12 = .ok (.iload_n 2, 1) := by decide +kernel
theorem dJ0_indexOf_7cf53_13 : decode cJ0_indexOf_7cf53 13 = .ok (.aload_n 0, 1) := by decide +kernel
theorem dJ0_indexOf_7cf53_14 : decode cJ0_indexOf_7cf53 14 = .ok (.invokevirtual 505, 3) := by decide +kernel
theorem dJ0_indexOf_7cf53_17 : decode cJ0_indexOf_7cf53 17 = .ok (.invokestatic 637, 3) := by decide +kernel
theorem dJ0_indexOf_7cf53_20 : decode cJ0_indexOf_7cf53 20 = .ok (.goto 16, 3) := by decide +kernel
theorem dJ0_indexOf_7cf53_23 : decode cJ0_indexOf_7cf53 23 = .ok (.aload_n 0, 1) := by decide +kernel
theorem dJ0_indexOf_7cf53_24 : decode cJ0_indexOf_7cf53 24 = .ok (.getfield 9, 3) := by decide +kernel
theorem dJ0_indexOf_7cf53_27 : decode cJ0_indexOf_7cf53 27 = .ok (.iload_n 1, 1) := by decide +kernel
theorem dJ0_indexOf_7cf53_28 : decode cJ0_indexOf_7cf53 28 = .ok (.iload_n 2, 1) := by decide +kernel
theorem dJ0_indexOf_7cf53_29 : decode cJ0_indexOf_7cf53 29 = .ok (.aload_n 0, 1) := by decide +kernel
theorem dJ0_indexOf_7cf53_30 : decode cJ0_indexOf_7cf53 30 = .ok (.invokevirtual 505, 3) := by decide +kernel
theorem dJ0_indexOf_7cf53_33 : decode cJ0_indexOf_7cf53 33 = .ok (.invokestatic 640, 3) := by decide +kernel
theorem dJ0_indexOf_7cf53_36 : decode cJ0_indexOf_7cf53 36 = .ok (.ireturn, 1) := by decide +kernel
theorem dJ0_coder_7d493_0 : decode cJ0_coder_7d493 0 = .ok (.getstatic 38, 3) := by decide +kernel
theorem dJ0_coder_7d493_3 : decode cJ0_coder_7d493 3 = .ok (.ifCond .eq 10, 3) := by decide +kernel
theorem dJ0_coder_7d493_6 : decode cJ0_coder_7d493 6 = .ok (.aload_n 0, 1) := by decide +kernel
theorem dJ0_coder_7d493_7 : decode cJ0_coder_7d493 7 = .ok (.getfield 15, 3) := by decide +kernel
theorem dJ0_coder_7d493_10 : decode cJ0_coder_7d493 10 = .ok (.goto 4, 3) := by decide +kernel
theorem dJ0_coder_7d493_13 : decode cJ0_coder_7d493 13 = .ok (.iconst 1, 1) := by decide +kernel
theorem dJ0_coder_7d493_14 : decode cJ0_coder_7d493 14 = .ok (.ireturn, 1) := by decide +kernel
theorem dJ0_isLatin1_aae02_0 : decode cJ0_isLatin1_aae02 0 = .ok (.getstatic 38, 3) := by decide +kernel
theorem dJ0_isLatin1_aae02_3 : decode cJ0_isLatin1_aae02 3 = .ok (.ifCond .eq 14, 3) := by decide +kernel
theorem dJ0_isLatin1_aae02_6 : decode cJ0_isLatin1_aae02 6 = .ok (.aload_n 0, 1) := by decide +kernel
theorem dJ0_isLatin1_aae02_7 : decode cJ0_isLatin1_aae02 7 = .ok (.getfield 15, 3) := by decide +kernel
theorem dJ0_isLatin1_aae02_10 : decode cJ0_isLatin1_aae02 10 = .ok (.ifCond .ne 7, 3) := by decide +kernel
theorem dJ0_isLatin1_aae02_13 : decode cJ0_isLatin1_aae02 13 = .ok (.iconst 1, 1) := by decide +kernel
theorem dJ0_isLatin1_aae02_14 : decode cJ0_isLatin1_aae02 14 = .ok (.goto 4, 3) := by decide +kernel
theorem dJ0_isLatin1_aae02_17 : decode cJ0_isLatin1_aae02 17 = .ok (.iconst 0, 1) := by decide +kernel
theorem dJ0_isLatin1_aae02_18 : decode cJ0_isLatin1_aae02 18 = .ok (.ireturn, 1) := by decide +kernel
theorem dJ0_checkBoundsBeginEnd_23922_0 : decode cJ0_checkBoundsBeginEnd_23922 0 = .ok (.iload_n 0, 1) := by decide +kernel
theorem dJ0_checkBoundsBeginEnd_23922_1 : decode cJ0_checkBoundsBeginEnd_23922 1 = .ok (.iload_n 1, 1) := by decide +kernel
theorem dJ0_checkBoundsBeginEnd_23922_2 : decode cJ0_checkBoundsBeginEnd_23922 2 = .ok (.iload_n 2, 1) := by decide +kernel
theorem dJ0_checkBoundsBeginEnd_23922_3 : decode cJ0_checkBoundsBeginEnd_23922 3 = .ok (.getstatic 1053, 3) := by decide +kernel
theorem dJ0_checkBoundsBeginEnd_23922_6 : decode cJ0_checkBoundsBeginEnd_23922 6 = .ok (.invokestatic 1062, 3) := by decide +kernel
theorem dJ0_checkBoundsBeginEnd_23922_9 : decode cJ0_checkBoundsBeginEnd_23922 9 = .ok (.pop, 1) := by decide +kernel
theorem dJ0_checkBoundsBeginEnd_23922_10 : decode cJ0_checkBoundsBeginEnd_23922 10 = .ok (.return_, 1) := by decide +kernel
theorem dJ1_canEncode_9a6ad_0 : decode cJ1_canEncode_9a6ad 0 = .ok (.iload_n 0, 1) := by decide +kernel
theorem dJ1_canEncode_9a6ad_1 : decode cJ1_canEncode_9a6ad 1 = .ok (.ifCond .lt 14, 3) := by decide +kernel
theorem dJ1_canEncode_9a6ad_4 : decode cJ1_canEncode_9a6ad 4 = .ok (.iload_n 0, 1) := by decide +kernel
theorem dJ1_canEncode_9a6ad_5 : decode cJ1_canEncode_9a6ad 5 = .ok (.sipush 255, 3) := by decide +kernel
theorem dJ1_canEncode_9a6ad_8 : decode cJ1_canEncode_9a6ad 8 = .ok (.if_icmp .gt 7, 3) := by decide +kernel
theorem dJ1_canEncode_9a6ad_11 : decode cJ1_canEncode_9a6ad 11 = .ok (.iconst 1, 1) := by decide +kernel
theorem dJ1_canEncode_9a6ad_12 : decode cJ1_canEncode_9a6ad 12 = .ok (.goto 4, 3) := by decide +kernel
theorem dJ1_canEncode_9a6ad_15 : decode cJ1_canEncode_9a6ad 15 = .ok (.iconst 0, 1) := by decide +kernel
theorem dJ1_canEncode_9a6ad_16 : decode cJ1_canEncode_9a6ad 16 = .ok (.ireturn, 1) := by decide +kernel
theorem dJ1_indexOf_4cfef_0 : decode cJ1_indexOf_4cfef 0 = .ok (.iload_n 1, 1) := by decide +kernel
theorem dJ1_indexOf_4cfef_1 : decode cJ1_indexOf_4cfef 1 = .ok (.invokestatic 88, 3) := by decide +kernel
theorem dJ1_indexOf_4cfef_4 : decode cJ1_indexOf_4cfef 4 = .ok (.ifCond .ne 5, 3) := by decide +kernel
theorem dJ1_indexOf_4cfef_7 : decode cJ1_indexOf_4cfef 7 = .ok (.iconst (-1), 1) := by decide +kernel
theorem dJ1_indexOf_4cfef_8 : decode cJ1_indexOf_4cfef 8 = .ok (.ireturn, 1) := by decide +kernel
theorem dJ1_indexOf_4cfef_9 : decode cJ1_indexOf_4cfef 9 = .ok (.iload_n 2, 1) := by decide +kernel
theorem dJ1_indexOf_4cfef_10 : decode cJ1_indexOf_4cfef 10 = .ok (.iconst 0, 1) := by decide +kernel
theorem dJ1_indexOf_4cfef_11 : decode cJ1_indexOf_4cfef 11 = .ok (.invokestatic 92, 3) := by decide +kernel
theorem dJ1_indexOf_4cfef_14 : decode cJ1_indexOf_4cfef 14 = .ok (.istore_n 2, 1) := by decide +kernel
theorem dJ1_indexOf_4cfef_15 : decode cJ1_indexOf_4cfef 15 = .ok (.iload_n 3, 1) := by decide +kernel
theorem dJ1_indexOf_4cfef_16 : decode cJ1_indexOf_4cfef 16 = .ok (.aload_n 0, 1) := by decide +kernel
theorem dJ1_indexOf_4cfef_17 : decode cJ1_indexOf_4cfef 17 = .ok (.arraylength, 1) := by decide +kernel
theorem dJ1_indexOf_4cfef_18 : decode cJ1_indexOf_4cfef 18 = .ok (.invokestatic 38, 3) := by decide +kernel
theorem dJ1_indexOf_4cfef_21 : decode cJ1_indexOf_4cfef 21 = .ok (.istore_n 3, 1) := by decide +kernel
theorem dJ1_indexOf_4cfef_22 : decode cJ1_indexOf_4cfef 22 = .ok (.iload_n 2, 1) := by decide +kernel
theorem dJ1_indexOf_4cfef_23 : decode cJ1_indexOf_4cfef 23 = .ok (.iload_n 3, 1) := by decide +kernel
theorem dJ1_indexOf_4cfef_24 : decode cJ1_indexOf_4cfef 24 = .ok (.if_icmp .lt 5, 3) := by decide +kernel
theorem dJ1_indexOf_4cfef_27 : decode cJ1_indexOf_4cfef 27 = .ok (.iconst (-1), 1) := by decide +kernel
theorem dJ1_indexOf_4cfef_28 : decode cJ1_indexOf_4cfef 28 = .ok (.ireturn, 1) := by decide +kernel
theorem dJ1_indexOf_4cfef_29 : decode cJ1_indexOf_4cfef 29 = .ok (.aload_n 0, 1) := by decide +kernel
theorem dJ1_indexOf_4cfef_30 : decode cJ1_indexOf_4cfef 30 = .ok (.iload_n 1, 1) := by decide +kernel
theorem dJ1_indexOf_4cfef_31 : decode cJ1_indexOf_4cfef 31 = .ok (.iload_n 2, 1) := by decide +kernel
theorem dJ1_indexOf_4cfef_32 : decode cJ1_indexOf_4cfef 32 = .ok (.iload_n 3, 1) := by decide +kernel
theorem dJ1_indexOf_4cfef_33 : decode cJ1_indexOf_4cfef 33 = .ok (.invokestatic 95, 3) := by decide +kernel
theorem dJ1_indexOf_4cfef_36 : decode cJ1_indexOf_4cfef 36 = .ok (.ireturn, 1) := by decide +kernel
theorem dJ1_indexOfChar_4cfef_0 : decode cJ1_indexOfChar_4cfef 0 = .ok (.iload_n 1, 1) := by decide +kernel
theorem dJ1_indexOfChar_4cfef_1 : decode cJ1_indexOfChar_4cfef 1 = .ok (.i2b, 1) := by decide +kernel
theorem dJ1_indexOfChar_4cfef_2 : decode cJ1_indexOfChar_4cfef 2 = .ok (.istore 4, 2) := by decide +kernel
theorem dJ1_indexOfChar_4cfef_4 : decode cJ1_indexOfChar_4cfef 4 = .ok (.iload_n 2, 1) := by decide +kernel
theorem dJ1_indexOfChar_4cfef_5 : decode cJ1_indexOfChar_4cfef 5 = .ok (.istore 5, 2) := by decide +kernel
theorem dJ1_indexOfChar_4cfef_7 : decode cJ1_indexOfChar_4cfef 7 = .ok (.iload 5, 2) := by decide +kernel
theorem dJ1_indexOfChar_4cfef_9 : decode cJ1_indexOfChar_4cfef 9 = .ok (.iload_n 3, 1) := by decide +kernel
theorem dJ1_indexOfChar_4cfef_10 : decode cJ1_indexOfChar_4cfef 10 = .ok (.if_icmp .ge 21, 3) := by decide +kernel
theorem dJ1_indexOfChar_4cfef_13 : decode cJ1_indexOfChar_4cfef 13 = .ok (.aload_n 0, 1) := by decide +kernel
theorem dJ1_indexOfChar_4cfef_14 : decode cJ1_indexOfChar_4cfef 14 = .ok (.iload 5, 2) := by decide +kernel
theorem dJ1_indexOfChar_4cfef_16 : decode cJ1_indexOfChar_4cfef 16 = .ok (.baload, 1) := by decide +kernel
theorem dJ1_indexOfChar_4cfef_17 : decode cJ1_indexOfChar_4cfef 17 = .ok (.iload 4, 2) := by decide +kernel
theorem dJ1_indexOfChar_4cfef_19 : decode cJ1_indexOfChar_4cfef 19 = .ok (.if_icmp .ne 6, 3) := by decide +kernel
theorem dJ1_indexOfChar_4cfef_22 : decode cJ1_indexOfChar_4cfef 22 = .ok (.iload 5, 2) := by decide +kernel
theorem dJ1_indexOfChar_4cfef_24 : decode cJ1_indexOfChar_4cfef 24 = .ok (.ireturn, 1) := by decide +kernel
theorem dJ1_indexOfChar_4cfef_25 : decode cJ1_indexOfChar_4cfef 25 = .ok (.iinc 5 1, 3) := by decide +kernel
theorem dJ1_indexOfChar_4cfef_28 : decode cJ1_indexOfChar_4cfef 28 = .ok (.goto (-21), 3) := by decide +kernel
theorem dJ1_indexOfChar_4cfef_31 : decode cJ1_indexOfChar_4cfef 31 = .ok (.iconst (-1), 1) := by decide +kernel
theorem dJ1_indexOfChar_4cfef_32 : decode cJ1_indexOfChar_4cfef 32 = .ok (.ireturn, 1) := by decide +kernel
theorem dJ7_fill_53178_0 : decode cJ7_fill_53178 0 = .ok (.iconst 0, 1) := by decide +kernel
theorem dJ7_fill_53178_1 : decode cJ7_fill_53178 1 = .ok (.istore_n 2, 1) := by decide +kernel
theorem dJ7_fill_53178_2 : decode cJ7_fill_53178 2 = .ok (.aload_n 0, 1) := by decide +kernel
theorem dJ7_fill_53178_3 : decode cJ7_fill_53178 3 = .ok (.arraylength, 1) := by decide +kernel
theorem dJ7_fill_53178_4 : decode cJ7_fill_53178 4 = .ok (.istore_n 3, 1) := by decide +kernel
theorem dJ7_fill_53178_5 : decode cJ7_fill_53178 5 = .ok (.iload_n 2, 1) := by decide +kernel
theorem dJ7_fill_53178_6 : decode cJ7_fill_53178 6 = .ok (.iload_n 3, 1) := by decide +kernel
theorem dJ7_fill_53178_7 : decode cJ7_fill_53178 7 = .ok (.if_icmp .ge 13, 3) := by decide +kernel
theorem dJ7_fill_53178_10 : decode cJ7_fill_53178 10 = .ok (.aload_n 0, 1) := by decide +kernel
theorem dJ7_fill_53178_11 : decode cJ7_fill_53178 11 = .ok (.iload_n 2, 1) := by decide +kernel
theorem dJ7_fill_53178_12 : decode cJ7_fill_53178 12 = .ok (.iload_n 1, 1) := by decide +kernel
theorem dJ7_fill_53178_13 : decode cJ7_fill_53178 13 = .ok (.iastore, 1) := by decide +kernel
theorem dJ7_fill_53178_14 : decode cJ7_fill_53178 14 = .ok (.iinc 2 1, 3) := by decide +kernel
theorem dJ7_fill_53178_17 : decode cJ7_fill_53178 17 = .ok (.goto (-12), 3) := by decide +kernel
theorem dJ7_fill_53178_20 : decode cJ7_fill_53178 20 = .ok (.return_, 1) := by decide +kernel
theorem dL_law_0 : decode cL_law 0 = .ok (.new 7, 3) := by decide +kernel
theorem dL_law_3 : decode cL_law 3 = .ok (.dup, 1) := by decide +kernel
theorem dL_law_4 : decode cL_law 4 = .ok (.invokespecial 9, 3) := by decide +kernel
theorem dL_law_7 : decode cL_law 7 = .ok (.astore_n 1, 1) := by decide +kernel
theorem dL_law_8 : decode cL_law 8 = .ok (.new 10, 3) := by decide +kernel
theorem dL_law_11 : decode cL_law 11 = .ok (.dup, 1) := by decide +kernel
theorem dL_law_12 : decode cL_law 12 = .ok (.invokespecial 12, 3) := by decide +kernel
theorem dL_law_15 : decode cL_law 15 = .ok (.astore_n 2, 1) := by decide +kernel
theorem dL_law_16 : decode cL_law 16 = .ok (.iconst 0, 1) := by decide +kernel
theorem dL_law_17 : decode cL_law 17 = .ok (.istore_n 3, 1) := by decide +kernel
theorem dL_law_18 : decode cL_law 18 = .ok (.iload_n 3, 1) := by decide +kernel
theorem dL_law_19 : decode cL_law 19 = .ok (.aload_n 0, 1) := by decide +kernel
theorem dL_law_20 : decode cL_law 20 = .ok (.arraylength, 1) := by decide +kernel
theorem dL_law_21 : decode cL_law 21 = .ok (.bipush 6, 2) := by decide +kernel
theorem dL_law_23 : decode cL_law 23 = .ok (.isub, 1) := by decide +kernel
theorem dL_law_24 : decode cL_law 24 = .ok (.if_icmp .gt 1330, 3) := by decide +kernel
theorem dL_law_27 : decode cL_law 27 = .ok (.aload_n 0, 1) := by decide +kernel
theorem dL_law_28 : decode cL_law 28 = .ok (.iload_n 3, 1) := by decide +kernel
theorem dL_law_29 : decode cL_law 29 = .ok (.iaload, 1) := by decide +kernel
theorem dL_law_30 : decode cL_law 30 = .ok (.bipush 63, 2) := by decide +kernel
theorem dL_law_32 : decode cL_law 32 = .ok (.iand, 1) := by decide +kernel
theorem dL_law_33 : decode cL_law 33 = .ok (.tableswitch 1315 0 33 #[151, 200, 259, 322, 365, 398, 421, 444, 487, 520, 563, 596, 639, 682, 705, 758, 821, 844, 877, 900, 933, 956, 979, 1012, 1035, 1068, 1091, 1124, 1157, 1200, 1223, 1246, 1269, 1292], 151) := by decide +kernel
theorem dL_law_184 : decode cL_law 184 = .ok (.aload_n 1, 1) := by decide +kernel
theorem dL_law_185 : decode cL_law 185 = .ok (.aload_n 0, 1) := by decide +kernel
theorem dL_law_186 : decode cL_law 186 = .ok (.iload_n 3, 1) := by decide +kernel
theorem dL_law_187 : decode cL_law 187 = .ok (.iconst 1, 1) := by decide +kernel
theorem dL_law_188 : decode cL_law 188 = .ok (.iadd, 1) := by decide +kernel
theorem dL_law_189 : decode cL_law 189 = .ok (.iaload, 1) := by decide +kernel
theorem dL_law_190 : decode cL_law 190 = .ok (.aload_n 0, 1) := by decide +kernel
theorem dL_law_191 : decode cL_law 191 = .ok (.iload_n 3, 1) := by decide +kernel
theorem dL_law_192 : decode cL_law 192 = .ok (.iconst 2, 1) := by decide +kernel
theorem dL_law_193 : decode cL_law 193 = .ok (.iadd, 1) := by decide +kernel
theorem dL_law_194 : decode cL_law 194 = .ok (.iaload, 1) := by decide +kernel
theorem dL_law_195 : decode cL_law 195 = .ok (.ifCond .eq 7, 3) := by decide +kernel
theorem dL_law_198 : decode cL_law 198 = .ok (.iconst 1, 1) := by decide +kernel
theorem dL_law_199 : decode cL_law 199 = .ok (.goto 4, 3) := by decide +kernel
theorem dL_law_202 : decode cL_law 202 = .ok (.iconst 0, 1) := by decide +kernel
theorem dL_law_203 : decode cL_law 203 = .ok (.invokevirtual 13, 3) := by decide +kernel
theorem dL_law_206 : decode cL_law 206 = .ok (.aload_n 2, 1) := by decide +kernel
theorem dL_law_207 : decode cL_law 207 = .ok (.aload_n 0, 1) := by decide +kernel
theorem dL_law_208 : decode cL_law 208 = .ok (.iload_n 3, 1) := by decide +kernel
theorem dL_law_209 : decode cL_law 209 = .ok (.iconst 1, 1) := by decide +kernel
theorem dL_law_210 : decode cL_law 210 = .ok (.iadd, 1) := by decide +kernel
theorem dL_law_211 : decode cL_law 211 = .ok (.iaload, 1) := by decide +kernel
theorem dL_law_212 : decode cL_law 212 = .ok (.aload_n 0, 1) := by decide +kernel
theorem dL_law_213 : decode cL_law 213 = .ok (.iload_n 3, 1) := by decide +kernel
theorem dL_law_214 : decode cL_law 214 = .ok (.iconst 2, 1) := by decide +kernel
theorem dL_law_215 : decode cL_law 215 = .ok (.iadd, 1) := by decide +kernel
theorem dL_law_216 : decode cL_law 216 = .ok (.iaload, 1) := by decide +kernel
theorem dL_law_217 : decode cL_law 217 = .ok (.ifCond .eq 7, 3) := by decide +kernel
theorem dL_law_220 : decode cL_law 220 = .ok (.iconst 1, 1) := by decide +kernel
theorem dL_law_221 : decode cL_law 221 = .ok (.goto 4, 3) := by decide +kernel
theorem dL_law_224 : decode cL_law 224 = .ok (.iconst 0, 1) := by decide +kernel
theorem dL_law_225 : decode cL_law 225 = .ok (.invokevirtual 17, 3) := by decide +kernel
theorem dL_law_228 : decode cL_law 228 = .ok (.if_icmp .eq 1120, 3) := by decide +kernel
theorem dL_law_231 : decode cL_law 231 = .ok (.iconst 0, 1) := by decide +kernel
theorem dL_law_232 : decode cL_law 232 = .ok (.ireturn, 1) := by decide +kernel
theorem dL_law_233 : decode cL_law 233 = .ok (.aload_n 1, 1) := by decide +kernel
theorem dL_law_234 : decode cL_law 234 = .ok (.aload_n 0, 1) := by decide +kernel
theorem dL_law_235 : decode cL_law 235 = .ok (.iload_n 3, 1) := by decide +kernel
theorem dL_law_236 : decode cL_law 236 = .ok (.iconst 1, 1) := by decide +kernel
theorem dL_law_237 : decode cL_law 237 = .ok (.iadd, 1) := by decide +kernel
theorem dL_law_238 : decode cL_law 238 = .ok (.iaload, 1) := by decide +kernel
theorem dL_law_239 : decode cL_law 239 = .ok (.aload_n 0, 1) := by decide +kernel
theorem dL_law_240 : decode cL_law 240 = .ok (.iload_n 3, 1) := by decide +kernel
theorem dL_law_241 : decode cL_law 241 = .ok (.iconst 2, 1) := by decide +kernel
theorem dL_law_242 : decode cL_law 242 = .ok (.iadd, 1) := by decide +kernel
theorem dL_law_243 : decode cL_law 243 = .ok (.iaload, 1) := by decide +kernel
theorem dL_law_244 : decode cL_law 244 = .ok (.aload_n 0, 1) := by decide +kernel
theorem dL_law_245 : decode cL_law 245 = .ok (.iload_n 3, 1) := by decide +kernel
theorem dL_law_246 : decode cL_law 246 = .ok (.iconst 3, 1) := by decide +kernel
theorem dL_law_247 : decode cL_law 247 = .ok (.iadd, 1) := by decide +kernel
theorem dL_law_248 : decode cL_law 248 = .ok (.iaload, 1) := by decide +kernel
theorem dL_law_249 : decode cL_law 249 = .ok (.ifCond .eq 7, 3) := by decide +kernel
theorem dL_law_252 : decode cL_law 252 = .ok (.iconst 1, 1) := by decide +kernel
theorem dL_law_253 : decode cL_law 253 = .ok (.goto 4, 3) := by decide +kernel
theorem dL_law_256 : decode cL_law 256 = .ok (.iconst 0, 1) := by decide +kernel
theorem dL_law_257 : decode cL_law 257 = .ok (.invokevirtual 18, 3) := by decide +kernel
theorem dL_law_260 : decode cL_law 260 = .ok (.aload_n 2, 1) := by decide +kernel
theorem dL_law_261 : decode cL_law 261 = .ok (.aload_n 0, 1) := by decide +kernel
theorem dL_law_262 : decode cL_law 262 = .ok (.iload_n 3, 1) := by decide +kernel
theorem dL_law_263 : decode cL_law 263 = .ok (.iconst 1, 1) := by decide +kernel
theorem dL_law_264 : decode cL_law 264 = .ok (.iadd, 1) := by decide +kernel
theorem dL_law_265 : decode cL_law 265 = .ok (.iaload, 1) := by decide +kernel
theorem dL_law_266 : decode cL_law 266 = .ok (.aload_n 0, 1) := by decide +kernel
theorem dL_law_267 : decode cL_law 267 = .ok (.iload_n 3, 1) := by decide +kernel
theorem dL_law_268 : decode cL_law 268 = .ok (.iconst 2, 1) := by decide +kernel
theorem dL_law_269 : decode cL_law 269 = .ok (.iadd, 1) := by decide +kernel
theorem dL_law_270 : decode cL_law 270 = .ok (.iaload, 1) := by decide +kernel
theorem dL_law_271 : decode cL_law 271 = .ok (.aload_n 0, 1) := by decide +kernel
theorem dL_law_272 : decode cL_law 272 = .ok (.iload_n 3, 1) := by decide +kernel
theorem dL_law_273 : decode cL_law 273 = .ok (.iconst 3, 1) := by decide +kernel
theorem dL_law_274 : decode cL_law 274 = .ok (.iadd, 1) := by decide +kernel
theorem dL_law_275 : decode cL_law 275 = .ok (.iaload, 1) := by decide +kernel
theorem dL_law_276 : decode cL_law 276 = .ok (.ifCond .eq 7, 3) := by decide +kernel
theorem dL_law_279 : decode cL_law 279 = .ok (.iconst 1, 1) := by decide +kernel
theorem dL_law_280 : decode cL_law 280 = .ok (.goto 4, 3) := by decide +kernel
theorem dL_law_283 : decode cL_law 283 = .ok (.iconst 0, 1) := by decide +kernel
theorem dL_law_284 : decode cL_law 284 = .ok (.invokevirtual 22, 3) := by decide +kernel
theorem dL_law_287 : decode cL_law 287 = .ok (.if_icmp .eq 1061, 3) := by decide +kernel
theorem dL_law_290 : decode cL_law 290 = .ok (.iconst 0, 1) := by decide +kernel
theorem dL_law_291 : decode cL_law 291 = .ok (.ireturn, 1) := by decide +kernel
theorem dL_law_292 : decode cL_law 292 = .ok (.aload_n 1, 1) := by decide +kernel
theorem dL_law_293 : decode cL_law 293 = .ok (.aload_n 0, 1) := by decide +kernel
theorem dL_law_294 : decode cL_law 294 = .ok (.iload_n 3, 1) := by decide +kernel
theorem dL_law_295 : decode cL_law 295 = .ok (.iconst 1, 1) := by decide +kernel
theorem dL_law_296 : decode cL_law 296 = .ok (.iadd, 1) := by decide +kernel
theorem dL_law_297 : decode cL_law 297 = .ok (.iaload, 1) := by decide +kernel
theorem dL_law_298 : decode cL_law 298 = .ok (.aload_n 0, 1) := by decide +kernel
theorem dL_law_299 : decode cL_law 299 = .ok (.iload_n 3, 1) := by decide +kernel
theorem dL_law_300 : decode cL_law 300 = .ok (.iconst 2, 1) := by decide +kernel
theorem dL_law_301 : decode cL_law 301 = .ok (.iadd, 1) := by decide +kernel
theorem dL_law_302 : decode cL_law 302 = .ok (.iaload, 1) := by decide +kernel
theorem dL_law_303 : decode cL_law 303 = .ok (.aload_n 0, 1) := by decide +kernel
theorem dL_law_304 : decode cL_law 304 = .ok (.iload_n 3, 1) := by decide +kernel
theorem dL_law_305 : decode cL_law 305 = .ok (.iconst 3, 1) := by decide +kernel
theorem dL_law_306 : decode cL_law 306 = .ok (.iadd, 1) := by decide +kernel
theorem dL_law_307 : decode cL_law 307 = .ok (.iaload, 1) := by decide +kernel
theorem dL_law_308 : decode cL_law 308 = .ok (.aload_n 0, 1) := by decide +kernel
theorem dL_law_309 : decode cL_law 309 = .ok (.iload_n 3, 1) := by decide +kernel
theorem dL_law_310 : decode cL_law 310 = .ok (.iconst 4, 1) := by decide +kernel
theorem dL_law_311 : decode cL_law 311 = .ok (.iadd, 1) := by decide +kernel
theorem dL_law_312 : decode cL_law 312 = .ok (.iaload, 1) := by decide +kernel
theorem dL_law_313 : decode cL_law 313 = .ok (.aload_n 0, 1) := by decide +kernel
theorem dL_law_314 : decode cL_law 314 = .ok (.iload_n 3, 1) := by decide +kernel
theorem dL_law_315 : decode cL_law 315 = .ok (.iconst 5, 1) := by decide +kernel
theorem dL_law_316 : decode cL_law 316 = .ok (.iadd, 1) := by decide +kernel
theorem dL_law_317 : decode cL_law 317 = .ok (.iaload, 1) := by decide +kernel
theorem dL_law_318 : decode cL_law 318 = .ok (.invokevirtual 23, 3) := by decide +kernel
theorem dL_law_321 : decode cL_law 321 = .ok (.aload_n 2, 1) := by decide +kernel
theorem dL_law_322 : decode cL_law 322 = .ok (.aload_n 0, 1) := by decide +kernel
theorem dL_law_323 : decode cL_law 323 = .ok (.iload_n 3, 1) := by decide +kernel
theorem dL_law_324 : decode cL_law 324 = .ok (.iconst 1, 1) := by decide +kernel
theorem dL_law_325 : decode cL_law 325 = .ok (.iadd, 1) := by decide +kernel
theorem dL_law_326 : decode cL_law 326 = .ok (.iaload, 1) := by decide +kernel
theorem dL_law_327 : decode cL_law 327 = .ok (.aload_n 0, 1) := by decide +kernel
theorem dL_law_328 : decode cL_law 328 = .ok (.iload_n 3, 1) := by decide +kernel
theorem dL_law_329 : decode cL_law 329 = .ok (.iconst 2, 1) := by decide +kernel
theorem dL_law_330 : decode cL_law 330 = .ok (.iadd, 1) := by decide +kernel
theorem dL_law_331 : decode cL_law 331 = .ok (.iaload, 1) := by decide +kernel
theorem dL_law_332 : decode cL_law 332 = .ok (.aload_n 0, 1) := by decide +kernel
theorem dL_law_333 : decode cL_law 333 = .ok (.iload_n 3, 1) := by decide +kernel
theorem dL_law_334 : decode cL_law 334 = .ok (.iconst 3, 1) := by decide +kernel
theorem dL_law_335 : decode cL_law 335 = .ok (.iadd, 1) := by decide +kernel
theorem dL_law_336 : decode cL_law 336 = .ok (.iaload, 1) := by decide +kernel
theorem dL_law_337 : decode cL_law 337 = .ok (.aload_n 0, 1) := by decide +kernel
theorem dL_law_338 : decode cL_law 338 = .ok (.iload_n 3, 1) := by decide +kernel
theorem dL_law_339 : decode cL_law 339 = .ok (.iconst 4, 1) := by decide +kernel
theorem dL_law_340 : decode cL_law 340 = .ok (.iadd, 1) := by decide +kernel
theorem dL_law_341 : decode cL_law 341 = .ok (.iaload, 1) := by decide +kernel
theorem dL_law_342 : decode cL_law 342 = .ok (.aload_n 0, 1) := by decide +kernel
theorem dL_law_343 : decode cL_law 343 = .ok (.iload_n 3, 1) := by decide +kernel
theorem dL_law_344 : decode cL_law 344 = .ok (.iconst 5, 1) := by decide +kernel
theorem dL_law_345 : decode cL_law 345 = .ok (.iadd, 1) := by decide +kernel
theorem dL_law_346 : decode cL_law 346 = .ok (.iaload, 1) := by decide +kernel
theorem dL_law_347 : decode cL_law 347 = .ok (.invokevirtual 27, 3) := by decide +kernel
theorem dL_law_350 : decode cL_law 350 = .ok (.if_icmp .eq 998, 3) := by decide +kernel
theorem dL_law_353 : decode cL_law 353 = .ok (.iconst 0, 1) := by decide +kernel
theorem dL_law_354 : decode cL_law 354 = .ok (.ireturn, 1) := by decide +kernel
theorem dL_law_355 : decode cL_law 355 = .ok (.aload_n 1, 1) := by decide +kernel
theorem dL_law_356 : decode cL_law 356 = .ok (.aload_n 0, 1) := by decide +kernel
theorem dL_law_357 : decode cL_law 357 = .ok (.iload_n 3, 1) := by decide +kernel
theorem dL_law_358 : decode cL_law 358 = .ok (.iconst 1, 1) := by decide +kernel
theorem dL_law_359 : decode cL_law 359 = .ok (.iadd, 1) := by decide +kernel
theorem dL_law_360 : decode cL_law 360 = .ok (.iaload, 1) := by decide +kernel
theorem dL_law_361 : decode cL_law 361 = .ok (.aload_n 0, 1) := by decide +kernel
theorem dL_law_362 : decode cL_law 362 = .ok (.iload_n 3, 1) := by decide +kernel
theorem dL_law_363 : decode cL_law 363 = .ok (.iconst 2, 1) := by decide +kernel
theorem dL_law_364 : decode cL_law 364 = .ok (.iadd, 1) := by decide +kernel
theorem dL_law_365 : decode cL_law 365 = .ok (.iaload, 1) := by decide +kernel
theorem dL_law_366 : decode cL_law 366 = .ok (.aload_n 0, 1) := by decide +kernel
theorem dL_law_367 : decode cL_law 367 = .ok (.iload_n 3, 1) := by decide +kernel
theorem dL_law_368 : decode cL_law 368 = .ok (.iconst 3, 1) := by decide +kernel
theorem dL_law_369 : decode cL_law 369 = .ok (.iadd, 1) := by decide +kernel
theorem dL_law_370 : decode cL_law 370 = .ok (.iaload, 1) := by decide +kernel
theorem dL_law_371 : decode cL_law 371 = .ok (.invokevirtual 28, 3) := by decide +kernel
theorem dL_law_374 : decode cL_law 374 = .ok (.aload_n 2, 1) := by decide +kernel
theorem dL_law_375 : decode cL_law 375 = .ok (.aload_n 0, 1) := by decide +kernel
theorem dL_law_376 : decode cL_law 376 = .ok (.iload_n 3, 1) := by decide +kernel
theorem dL_law_377 : decode cL_law 377 = .ok (.iconst 1, 1) := by decide +kernel
theorem dL_law_378 : decode cL_law 378 = .ok (.iadd, 1) := by decide +kernel
theorem dL_law_379 : decode cL_law 379 = .ok (.iaload, 1) := by decide +kernel
theorem dL_law_380 : decode cL_law 380 = .ok (.aload_n 0, 1) := by decide +kernel
theorem dL_law_381 : decode cL_law 381 = .ok (.iload_n 3, 1) := by decide +kernel
theorem dL_law_382 : decode cL_law 382 = .ok (.iconst 2, 1) := by decide +kernel
theorem dL_law_383 : decode cL_law 383 = .ok (.iadd, 1) := by decide +kernel
theorem dL_law_384 : decode cL_law 384 = .ok (.iaload, 1) := by decide +kernel
theorem dL_law_385 : decode cL_law 385 = .ok (.aload_n 0, 1) := by decide +kernel
theorem dL_law_386 : decode cL_law 386 = .ok (.iload_n 3, 1) := by decide +kernel
theorem dL_law_387 : decode cL_law 387 = .ok (.iconst 3, 1) := by decide +kernel
theorem dL_law_388 : decode cL_law 388 = .ok (.iadd, 1) := by decide +kernel
theorem dL_law_389 : decode cL_law 389 = .ok (.iaload, 1) := by decide +kernel
theorem dL_law_390 : decode cL_law 390 = .ok (.invokevirtual 32, 3) := by decide +kernel
theorem dL_law_393 : decode cL_law 393 = .ok (.if_icmp .eq 955, 3) := by decide +kernel
theorem dL_law_396 : decode cL_law 396 = .ok (.iconst 0, 1) := by decide +kernel
theorem dL_law_397 : decode cL_law 397 = .ok (.ireturn, 1) := by decide +kernel
theorem dL_law_398 : decode cL_law 398 = .ok (.aload_n 1, 1) := by decide +kernel
theorem dL_law_399 : decode cL_law 399 = .ok (.aload_n 0, 1) := by decide +kernel
theorem dL_law_400 : decode cL_law 400 = .ok (.iload_n 3, 1) := by decide +kernel
theorem dL_law_401 : decode cL_law 401 = .ok (.iconst 1, 1) := by decide +kernel
theorem dL_law_402 : decode cL_law 402 = .ok (.iadd, 1) := by decide +kernel
theorem dL_law_403 : decode cL_law 403 = .ok (.iaload, 1) := by decide +kernel
theorem dL_law_404 : decode cL_law 404 = .ok (.aload_n 0, 1) := by decide +kernel
theorem dL_law_405 : decode cL_law 405 = .ok (.iload_n 3, 1) := by decide +kernel
theorem dL_law_406 : decode cL_law 406 = .ok (.iconst 2, 1) := by decide +kernel
theorem dL_law_407 : decode cL_law 407 = .ok (.iadd, 1) := by decide +kernel
theorem dL_law_408 : decode cL_law 408 = .ok (.iaload, 1) := by decide +kernel
theorem dL_law_409 : decode cL_law 409 = .ok (.invokevirtual 33, 3) := by decide +kernel
theorem dL_law_412 : decode cL_law 412 = .ok (.aload_n 2, 1) := by decide +kernel
theorem dL_law_413 : decode cL_law 413 = .ok (.aload_n 0, 1) := by decide +kernel
theorem dL_law_414 : decode cL_law 414 = .ok (.iload_n 3, 1) := by decide +kernel
theorem dL_law_415 : decode cL_law 415 = .ok (.iconst 1, 1) := by decide +kernel
theorem dL_law_416 : decode cL_law 416 = .ok (.iadd, 1) := by decide +kernel
theorem dL_law_417 : decode cL_law 417 = .ok (.iaload, 1) := by decide +kernel
theorem dL_law_418 : decode cL_law 418 = .ok (.aload_n 0, 1) := by decide +kernel
theorem dL_law_419 : decode cL_law 419 = .ok (.iload_n 3, 1) := by decide +kernel
theorem dL_law_420 : decode cL_law 420 = .ok (.iconst 2, 1) := by decide +kernel
theorem dL_law_421 : decode cL_law 421 = .ok (.iadd, 1) := by decide +kernel
theorem dL_law_422 : decode cL_law 422 = .ok (.iaload, 1) := by decide +kernel
theorem dL_law_423 : decode cL_law 423 = .ok (.invokevirtual 37, 3) := by decide +kernel
theorem dL_law_426 : decode cL_law 426 = .ok (.if_icmp .eq 922, 3) := by decide +kernel
theorem dL_law_429 : decode cL_law 429 = .ok (.iconst 0, 1) := by decide +kernel
theorem dL_law_430 : decode cL_law 430 = .ok (.ireturn, 1) := by decide +kernel
theorem dL_law_431 : decode cL_law 431 = .ok (.aload_n 1, 1) := by decide +kernel
theorem dL_law_432 : decode cL_law 432 = .ok (.aload_n 0, 1) := by decide +kernel
theorem dL_law_433 : decode cL_law 433 = .ok (.iload_n 3, 1) := by decide +kernel
theorem dL_law_434 : decode cL_law 434 = .ok (.iconst 1, 1) := by decide +kernel
theorem dL_law_435 : decode cL_law 435 = .ok (.iadd, 1) := by decide +kernel
theorem dL_law_436 : decode cL_law 436 = .ok (.iaload, 1) := by decide +kernel
theorem dL_law_437 : decode cL_law 437 = .ok (.invokevirtual 38, 3) := by decide +kernel
theorem dL_law_440 : decode cL_law 440 = .ok (.aload_n 2, 1) := by decide +kernel
theorem dL_law_441 : decode cL_law 441 = .ok (.aload_n 0, 1) := by decide +kernel
theorem dL_law_442 : decode cL_law 442 = .ok (.iload_n 3, 1) := by decide +kernel
theorem dL_law_443 : decode cL_law 443 = .ok (.iconst 1, 1) := by decide +kernel
theorem dL_law_444 : decode cL_law 444 = .ok (.iadd, 1) := by decide +kernel
theorem dL_law_445 : decode cL_law 445 = .ok (.iaload, 1) := by decide +kernel
theorem dL_law_446 : decode cL_law 446 = .ok (.invokevirtual 42, 3) := by decide +kernel
theorem dL_law_449 : decode cL_law 449 = .ok (.if_icmp .eq 899, 3) := by decide +kernel
theorem dL_law_452 : decode cL_law 452 = .ok (.iconst 0, 1) := by decide +kernel
theorem dL_law_453 : decode cL_law 453 = .ok (.ireturn, 1) := by decide +kernel
theorem dL_law_454 : decode cL_law 454 = .ok (.aload_n 1, 1) := by decide +kernel
theorem dL_law_455 : decode cL_law 455 = .ok (.aload_n 0, 1) := by decide +kernel
theorem dL_law_456 : decode cL_law 456 = .ok (.iload_n 3, 1) := by decide +kernel
theorem dL_law_457 : decode cL_law 457 = .ok (.iconst 1, 1) := by decide +kernel
theorem dL_law_458 : decode cL_law 458 = .ok (.iadd, 1) := by decide +kernel
theorem dL_law_459 : decode cL_law 459 = .ok (.iaload, 1) := by decide +kernel
theorem dL_law_460 : decode cL_law 460 = .ok (.invokevirtual 43, 3) := by decide +kernel
theorem dL_law_463 : decode cL_law 463 = .ok (.aload_n 2, 1) := by decide +kernel
theorem dL_law_464 : decode cL_law 464 = .ok (.aload_n 0, 1) := by decide +kernel
theorem dL_law_465 : decode cL_law 465 = .ok (.iload_n 3, 1) := by decide +kernel
theorem dL_law_466 : decode cL_law 466 = .ok (.iconst 1, 1) := by decide +kernel
theorem dL_law_467 : decode cL_law 467 = .ok (.iadd, 1) := by decide +kernel
theorem dL_law_468 : decode cL_law 468 = .ok (.iaload, 1) := by decide +kernel
theorem dL_law_469 : decode cL_law 469 = .ok (.invokevirtual 46, 3) := by decide +kernel
theorem dL_law_472 : decode cL_law 472 = .ok (.if_icmp .eq 876, 3) := by decide +kernel
theorem dL_law_475 : decode cL_law 475 = .ok (.iconst 0, 1) := by decide +kernel
theorem dL_law_476 : decode cL_law 476 = .ok (.ireturn, 1) := by decide +kernel
theorem dL_law_477 : decode cL_law 477 = .ok (.aload_n 1, 1) := by decide +kernel
theorem dL_law_478 : decode cL_law 478 = .ok (.aload_n 0, 1) := by decide +kernel
theorem dL_law_479 : decode cL_law 479 = .ok (.iload_n 3, 1) := by decide +kernel
theorem dL_law_480 : decode cL_law 480 = .ok (.iconst 1, 1) := by decide +kernel
theorem dL_law_481 : decode cL_law 481 = .ok (.iadd, 1) := by decide +kernel
theorem dL_law_482 : decode cL_law 482 = .ok (.iaload, 1) := by decide +kernel
theorem dL_law_483 : decode cL_law 483 = .ok (.aload_n 0, 1) := by decide +kernel
theorem dL_law_484 : decode cL_law 484 = .ok (.iload_n 3, 1) := by decide +kernel
theorem dL_law_485 : decode cL_law 485 = .ok (.iconst 2, 1) := by decide +kernel
theorem dL_law_486 : decode cL_law 486 = .ok (.iadd, 1) := by decide +kernel
theorem dL_law_487 : decode cL_law 487 = .ok (.iaload, 1) := by decide +kernel
theorem dL_law_488 : decode cL_law 488 = .ok (.aload_n 0, 1) := by decide +kernel
theorem dL_law_489 : decode cL_law 489 = .ok (.iload_n 3, 1) := by decide +kernel
theorem dL_law_490 : decode cL_law 490 = .ok (.iconst 3, 1) := by decide +kernel
theorem dL_law_491 : decode cL_law 491 = .ok (.iadd, 1) := by decide +kernel
theorem dL_law_492 : decode cL_law 492 = .ok (.iaload, 1) := by decide +kernel
theorem dL_law_493 : decode cL_law 493 = .ok (.invokevirtual 47, 3) := by decide +kernel
theorem dL_law_496 : decode cL_law 496 = .ok (.aload_n 2, 1) := by decide +kernel
theorem dL_law_497 : decode cL_law 497 = .ok (.aload_n 0, 1) := by decide +kernel
theorem dL_law_498 : decode cL_law 498 = .ok (.iload_n 3, 1) := by decide +kernel
theorem dL_law_499 : decode cL_law 499 = .ok (.iconst 1, 1) := by decide +kernel
theorem dL_law_500 : decode cL_law 500 = .ok (.iadd, 1) := by decide +kernel
theorem dL_law_501 : decode cL_law 501 = .ok (.iaload, 1) := by decide +kernel
theorem dL_law_502 : decode cL_law 502 = .ok (.aload_n 0, 1) := by decide +kernel
theorem dL_law_503 : decode cL_law 503 = .ok (.iload_n 3, 1) := by decide +kernel
theorem dL_law_504 : decode cL_law 504 = .ok (.iconst 2, 1) := by decide +kernel
theorem dL_law_505 : decode cL_law 505 = .ok (.iadd, 1) := by decide +kernel
theorem dL_law_506 : decode cL_law 506 = .ok (.iaload, 1) := by decide +kernel
theorem dL_law_507 : decode cL_law 507 = .ok (.aload_n 0, 1) := by decide +kernel
theorem dL_law_508 : decode cL_law 508 = .ok (.iload_n 3, 1) := by decide +kernel
theorem dL_law_509 : decode cL_law 509 = .ok (.iconst 3, 1) := by decide +kernel
theorem dL_law_510 : decode cL_law 510 = .ok (.iadd, 1) := by decide +kernel
theorem dL_law_511 : decode cL_law 511 = .ok (.iaload, 1) := by decide +kernel
theorem dL_law_512 : decode cL_law 512 = .ok (.invokevirtual 50, 3) := by decide +kernel
theorem dL_law_515 : decode cL_law 515 = .ok (.if_icmp .eq 833, 3) := by decide +kernel
theorem dL_law_518 : decode cL_law 518 = .ok (.iconst 0, 1) := by decide +kernel
theorem dL_law_519 : decode cL_law 519 = .ok (.ireturn, 1) := by decide +kernel
theorem dL_law_520 : decode cL_law 520 = .ok (.aload_n 1, 1) := by decide +kernel
theorem dL_law_521 : decode cL_law 521 = .ok (.aload_n 0, 1) := by decide +kernel
theorem dL_law_522 : decode cL_law 522 = .ok (.iload_n 3, 1) := by decide +kernel
theorem dL_law_523 : decode cL_law 523 = .ok (.iconst 1, 1) := by decide +kernel
theorem dL_law_524 : decode cL_law 524 = .ok (.iadd, 1) := by decide +kernel
theorem dL_law_525 : decode cL_law 525 = .ok (.iaload, 1) := by decide +kernel
theorem dL_law_526 : decode cL_law 526 = .ok (.aload_n 0, 1) := by decide +kernel
theorem dL_law_527 : decode cL_law 527 = .ok (.iload_n 3, 1) := by decide +kernel
theorem dL_law_528 : decode cL_law 528 = .ok (.iconst 2, 1) := by decide +kernel
theorem dL_law_529 : decode cL_law 529 = .ok (.iadd, 1) := by decide +kernel
theorem dL_law_530 : decode cL_law 530 = .ok (.iaload, 1) := by decide +kernel
theorem dL_law_531 : decode cL_law 531 = .ok (.invokevirtual 51, 3) := by decide +kernel
theorem dL_law_534 : decode cL_law 534 = .ok (.aload_n 2, 1) := by decide +kernel
theorem dL_law_535 : decode cL_law 535 = .ok (.aload_n 0, 1) := by decide +kernel
theorem dL_law_536 : decode cL_law 536 = .ok (.iload_n 3, 1) := by decide +kernel
theorem dL_law_537 : decode cL_law 537 = .ok (.iconst 1, 1) := by decide +kernel
theorem dL_law_538 : decode cL_law 538 = .ok (.iadd, 1) := by decide +kernel
theorem dL_law_539 : decode cL_law 539 = .ok (.iaload, 1) := by decide +kernel
theorem dL_law_540 : decode cL_law 540 = .ok (.aload_n 0, 1) := by decide +kernel
theorem dL_law_541 : decode cL_law 541 = .ok (.iload_n 3, 1) := by decide +kernel
theorem dL_law_542 : decode cL_law 542 = .ok (.iconst 2, 1) := by decide +kernel
theorem dL_law_543 : decode cL_law 543 = .ok (.iadd, 1) := by decide +kernel
theorem dL_law_544 : decode cL_law 544 = .ok (.iaload, 1) := by decide +kernel
theorem dL_law_545 : decode cL_law 545 = .ok (.invokevirtual 54, 3) := by decide +kernel
theorem dL_law_548 : decode cL_law 548 = .ok (.if_icmp .eq 800, 3) := by decide +kernel
theorem dL_law_551 : decode cL_law 551 = .ok (.iconst 0, 1) := by decide +kernel
theorem dL_law_552 : decode cL_law 552 = .ok (.ireturn, 1) := by decide +kernel
theorem dL_law_553 : decode cL_law 553 = .ok (.aload_n 1, 1) := by decide +kernel
theorem dL_law_554 : decode cL_law 554 = .ok (.aload_n 0, 1) := by decide +kernel
theorem dL_law_555 : decode cL_law 555 = .ok (.iload_n 3, 1) := by decide +kernel
theorem dL_law_556 : decode cL_law 556 = .ok (.iconst 1, 1) := by decide +kernel
theorem dL_law_557 : decode cL_law 557 = .ok (.iadd, 1) := by decide +kernel
theorem dL_law_558 : decode cL_law 558 = .ok (.iaload, 1) := by decide +kernel
theorem dL_law_559 : decode cL_law 559 = .ok (.aload_n 0, 1) := by decide +kernel
theorem dL_law_560 : decode cL_law 560 = .ok (.iload_n 3, 1) := by decide +kernel
theorem dL_law_561 : decode cL_law 561 = .ok (.iconst 2, 1) := by decide +kernel
theorem dL_law_562 : decode cL_law 562 = .ok (.iadd, 1) := by decide +kernel
theorem dL_law_563 : decode cL_law 563 = .ok (.iaload, 1) := by decide +kernel
theorem dL_law_564 : decode cL_law 564 = .ok (.aload_n 0, 1) := by decide +kernel
theorem dL_law_565 : decode cL_law 565 = .ok (.iload_n 3, 1) := by decide +kernel
theorem dL_law_566 : decode cL_law 566 = .ok (.iconst 3, 1) := by decide +kernel
theorem dL_law_567 : decode cL_law 567 = .ok (.iadd, 1) := by decide +kernel
theorem dL_law_568 : decode cL_law 568 = .ok (.iaload, 1) := by decide +kernel
theorem dL_law_569 : decode cL_law 569 = .ok (.invokevirtual 55, 3) := by decide +kernel
theorem dL_law_572 : decode cL_law 572 = .ok (.aload_n 2, 1) := by decide +kernel
theorem dL_law_573 : decode cL_law 573 = .ok (.aload_n 0, 1) := by decide +kernel
theorem dL_law_574 : decode cL_law 574 = .ok (.iload_n 3, 1) := by decide +kernel
theorem dL_law_575 : decode cL_law 575 = .ok (.iconst 1, 1) := by decide +kernel
theorem dL_law_576 : decode cL_law 576 = .ok (.iadd, 1) := by decide +kernel
theorem dL_law_577 : decode cL_law 577 = .ok (.iaload, 1) := by decide +kernel
theorem dL_law_578 : decode cL_law 578 = .ok (.aload_n 0, 1) := by decide +kernel
theorem dL_law_579 : decode cL_law 579 = .ok (.iload_n 3, 1) := by decide +kernel
theorem dL_law_580 : decode cL_law 580 = .ok (.iconst 2, 1) := by decide +kernel
theorem dL_law_581 : decode cL_law 581 = .ok (.iadd, 1) := by decide +kernel
theorem dL_law_582 : decode cL_law 582 = .ok (.iaload, 1) := by decide +kernel
theorem dL_law_583 : decode cL_law 583 = .ok (.aload_n 0, 1) := by decide +kernel
theorem dL_law_584 : decode cL_law 584 = .ok (.iload_n 3, 1) := by decide +kernel
theorem dL_law_585 : decode cL_law 585 = .ok (.iconst 3, 1) := by decide +kernel
theorem dL_law_586 : decode cL_law 586 = .ok (.iadd, 1) := by decide +kernel
theorem dL_law_587 : decode cL_law 587 = .ok (.iaload, 1) := by decide +kernel
theorem dL_law_588 : decode cL_law 588 = .ok (.invokevirtual 58, 3) := by decide +kernel
theorem dL_law_591 : decode cL_law 591 = .ok (.if_icmp .eq 757, 3) := by decide +kernel
theorem dL_law_594 : decode cL_law 594 = .ok (.iconst 0, 1) := by decide +kernel
theorem dL_law_595 : decode cL_law 595 = .ok (.ireturn, 1) := by decide +kernel
theorem dL_law_596 : decode cL_law 596 = .ok (.aload_n 1, 1) := by decide +kernel
theorem dL_law_597 : decode cL_law 597 = .ok (.aload_n 0, 1) := by decide +kernel
theorem dL_law_598 : decode cL_law 598 = .ok (.iload_n 3, 1) := by decide +kernel
theorem dL_law_599 : decode cL_law 599 = .ok (.iconst 1, 1) := by decide +kernel
theorem dL_law_600 : decode cL_law 600 = .ok (.iadd, 1) := by decide +kernel
theorem dL_law_601 : decode cL_law 601 = .ok (.iaload, 1) := by decide +kernel
theorem dL_law_602 : decode cL_law 602 = .ok (.aload_n 0, 1) := by decide +kernel
theorem dL_law_603 : decode cL_law 603 = .ok (.iload_n 3, 1) := by decide +kernel
theorem dL_law_604 : decode cL_law 604 = .ok (.iconst 2, 1) := by decide +kernel
theorem dL_law_605 : decode cL_law 605 = .ok (.iadd, 1) := by decide +kernel
theorem dL_law_606 : decode cL_law 606 = .ok (.iaload, 1) := by decide +kernel
theorem dL_law_607 : decode cL_law 607 = .ok (.invokevirtual 59, 3) := by decide +kernel
theorem dL_law_610 : decode cL_law 610 = .ok (.aload_n 2, 1) := by decide +kernel
theorem dL_law_611 : decode cL_law 611 = .ok (.aload_n 0, 1) := by decide +kernel
theorem dL_law_612 : decode cL_law 612 = .ok (.iload_n 3, 1) := by decide +kernel
theorem dL_law_613 : decode cL_law 613 = .ok (.iconst 1, 1) := by decide +kernel
theorem dL_law_614 : decode cL_law 614 = .ok (.iadd, 1) := by decide +kernel
theorem dL_law_615 : decode cL_law 615 = .ok (.iaload, 1) := by decide +kernel
theorem dL_law_616 : decode cL_law 616 = .ok (.aload_n 0, 1) := by decide +kernel
theorem dL_law_617 : decode cL_law 617 = .ok (.iload_n 3, 1) := by decide +kernel
theorem dL_law_618 : decode cL_law 618 = .ok (.iconst 2, 1) := by decide +kernel
theorem dL_law_619 : decode cL_law 619 = .ok (.iadd, 1) := by decide +kernel
theorem dL_law_620 : decode cL_law 620 = .ok (.iaload, 1) := by decide +kernel
theorem dL_law_621 : decode cL_law 621 = .ok (.invokevirtual 62, 3) := by decide +kernel
theorem dL_law_624 : decode cL_law 624 = .ok (.if_icmp .eq 724, 3) := by decide +kernel
theorem dL_law_627 : decode cL_law 627 = .ok (.iconst 0, 1) := by decide +kernel
theorem dL_law_628 : decode cL_law 628 = .ok (.ireturn, 1) := by decide +kernel
theorem dL_law_629 : decode cL_law 629 = .ok (.aload_n 1, 1) := by decide +kernel
theorem dL_law_630 : decode cL_law 630 = .ok (.aload_n 0, 1) := by decide +kernel
theorem dL_law_631 : decode cL_law 631 = .ok (.iload_n 3, 1) := by decide +kernel
theorem dL_law_632 : decode cL_law 632 = .ok (.iconst 1, 1) := by decide +kernel
theorem dL_law_633 : decode cL_law 633 = .ok (.iadd, 1) := by decide +kernel
theorem dL_law_634 : decode cL_law 634 = .ok (.iaload, 1) := by decide +kernel
theorem dL_law_635 : decode cL_law 635 = .ok (.aload_n 0, 1) := by decide +kernel
theorem dL_law_636 : decode cL_law 636 = .ok (.iload_n 3, 1) := by decide +kernel
theorem dL_law_637 : decode cL_law 637 = .ok (.iconst 2, 1) := by decide +kernel
theorem dL_law_638 : decode cL_law 638 = .ok (.iadd, 1) := by decide +kernel
theorem dL_law_639 : decode cL_law 639 = .ok (.iaload, 1) := by decide +kernel
theorem dL_law_640 : decode cL_law 640 = .ok (.aload_n 0, 1) := by decide +kernel
theorem dL_law_641 : decode cL_law 641 = .ok (.iload_n 3, 1) := by decide +kernel
theorem dL_law_642 : decode cL_law 642 = .ok (.iconst 3, 1) := by decide +kernel
theorem dL_law_643 : decode cL_law 643 = .ok (.iadd, 1) := by decide +kernel
theorem dL_law_644 : decode cL_law 644 = .ok (.iaload, 1) := by decide +kernel
theorem dL_law_645 : decode cL_law 645 = .ok (.invokevirtual 63, 3) := by decide +kernel
theorem dL_law_648 : decode cL_law 648 = .ok (.aload_n 2, 1) := by decide +kernel
theorem dL_law_649 : decode cL_law 649 = .ok (.aload_n 0, 1) := by decide +kernel
theorem dL_law_650 : decode cL_law 650 = .ok (.iload_n 3, 1) := by decide +kernel
theorem dL_law_651 : decode cL_law 651 = .ok (.iconst 1, 1) := by decide +kernel
theorem dL_law_652 : decode cL_law 652 = .ok (.iadd, 1) := by decide +kernel
theorem dL_law_653 : decode cL_law 653 = .ok (.iaload, 1) := by decide +kernel
theorem dL_law_654 : decode cL_law 654 = .ok (.aload_n 0, 1) := by decide +kernel
theorem dL_law_655 : decode cL_law 655 = .ok (.iload_n 3, 1) := by decide +kernel
theorem dL_law_656 : decode cL_law 656 = .ok (.iconst 2, 1) := by decide +kernel
theorem dL_law_657 : decode cL_law 657 = .ok (.iadd, 1) := by decide +kernel
theorem dL_law_658 : decode cL_law 658 = .ok (.iaload, 1) := by decide +kernel
theorem dL_law_659 : decode cL_law 659 = .ok (.aload_n 0, 1) := by decide +kernel
theorem dL_law_660 : decode cL_law 660 = .ok (.iload_n 3, 1) := by decide +kernel
theorem dL_law_661 : decode cL_law 661 = .ok (.iconst 3, 1) := by decide +kernel
theorem dL_law_662 : decode cL_law 662 = .ok (.iadd, 1) := by decide +kernel
theorem dL_law_663 : decode cL_law 663 = .ok (.iaload, 1) := by decide +kernel
theorem dL_law_664 : decode cL_law 664 = .ok (.invokevirtual 66, 3) := by decide +kernel
theorem dL_law_667 : decode cL_law 667 = .ok (.if_icmp .eq 681, 3) := by decide +kernel
theorem dL_law_670 : decode cL_law 670 = .ok (.iconst 0, 1) := by decide +kernel
theorem dL_law_671 : decode cL_law 671 = .ok (.ireturn, 1) := by decide +kernel
theorem dL_law_672 : decode cL_law 672 = .ok (.aload_n 1, 1) := by decide +kernel
theorem dL_law_673 : decode cL_law 673 = .ok (.aload_n 0, 1) := by decide +kernel
theorem dL_law_674 : decode cL_law 674 = .ok (.iload_n 3, 1) := by decide +kernel
theorem dL_law_675 : decode cL_law 675 = .ok (.iconst 1, 1) := by decide +kernel
theorem dL_law_676 : decode cL_law 676 = .ok (.iadd, 1) := by decide +kernel
theorem dL_law_677 : decode cL_law 677 = .ok (.iaload, 1) := by decide +kernel
theorem dL_law_678 : decode cL_law 678 = .ok (.aload_n 0, 1) := by decide +kernel
theorem dL_law_679 : decode cL_law 679 = .ok (.iload_n 3, 1) := by decide +kernel
theorem dL_law_680 : decode cL_law 680 = .ok (.iconst 2, 1) := by decide +kernel
theorem dL_law_681 : decode cL_law 681 = .ok (.iadd, 1) := by decide +kernel
theorem dL_law_682 : decode cL_law 682 = .ok (.iaload, 1) := by decide +kernel
theorem dL_law_683 : decode cL_law 683 = .ok (.aload_n 0, 1) := by decide +kernel
theorem dL_law_684 : decode cL_law 684 = .ok (.iload_n 3, 1) := by decide +kernel
theorem dL_law_685 : decode cL_law 685 = .ok (.iconst 3, 1) := by decide +kernel
theorem dL_law_686 : decode cL_law 686 = .ok (.iadd, 1) := by decide +kernel
theorem dL_law_687 : decode cL_law 687 = .ok (.iaload, 1) := by decide +kernel
theorem dL_law_688 : decode cL_law 688 = .ok (.invokevirtual 67, 3) := by decide +kernel
theorem dL_law_691 : decode cL_law 691 = .ok (.aload_n 2, 1) := by decide +kernel
theorem dL_law_692 : decode cL_law 692 = .ok (.aload_n 0, 1) := by decide +kernel
theorem dL_law_693 : decode cL_law 693 = .ok (.iload_n 3, 1) := by decide +kernel
theorem dL_law_694 : decode cL_law 694 = .ok (.iconst 1, 1) := by decide +kernel
theorem dL_law_695 : decode cL_law 695 = .ok (.iadd, 1) := by decide +kernel
theorem dL_law_696 : decode cL_law 696 = .ok (.iaload, 1) := by decide +kernel
theorem dL_law_697 : decode cL_law 697 = .ok (.aload_n 0, 1) := by decide +kernel
theorem dL_law_698 : decode cL_law 698 = .ok (.iload_n 3, 1) := by decide +kernel
theorem dL_law_699 : decode cL_law 699 = .ok (.iconst 2, 1) := by decide +kernel
theorem dL_law_700 : decode cL_law 700 = .ok (.iadd, 1) := by decide +kernel
theorem dL_law_701 : decode cL_law 701 = .ok (.iaload, 1) := by decide +kernel
theorem dL_law_702 : decode cL_law 702 = .ok (.aload_n 0, 1) := by decide +kernel
