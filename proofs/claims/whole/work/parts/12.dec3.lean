theorem dX8_far_4 : decode cX8_far 4 = .ok (.iload_n 1, 1) := by decide +kernel
theorem dX8_far_5 : decode cX8_far 5 = .ok (.invokevirtual 73, 3) := by decide +kernel
theorem dX8_far_8 : decode cX8_far 8 = .ok (.ifCond .eq 14, 3) := by decide +kernel
theorem dX8_far_11 : decode cX8_far 11 = .ok (.aload_n 0, 1) := by decide +kernel
theorem dX8_far_12 : decode cX8_far 12 = .ok (.getfield 20, 3) := by decide +kernel
theorem dX8_far_15 : decode cX8_far 15 = .ok (.iload_n 2, 1) := by decide +kernel
theorem dX8_far_16 : decode cX8_far 16 = .ok (.invokevirtual 73, 3) := by decide +kernel
theorem dX8_far_19 : decode cX8_far 19 = .ok (.ifCond .ne 9, 3) := by decide +kernel
theorem dX8_far_22 : decode cX8_far 22 = .ok (.aload_n 0, 1) := by decide +kernel
theorem dX8_far_23 : decode cX8_far 23 = .ok (.iconst (-1), 1) := by decide +kernel
theorem dX8_far_24 : decode cX8_far 24 = .ok (.invokevirtual 59, 3) := by decide +kernel
theorem dX8_far_27 : decode cX8_far 27 = .ok (.ireturn, 1) := by decide +kernel
theorem dX8_far_28 : decode cX8_far 28 = .ok (.aload_n 0, 1) := by decide +kernel
theorem dX8_far_29 : decode cX8_far 29 = .ok (.getfield 20, 3) := by decide +kernel
theorem dX8_far_32 : decode cX8_far 32 = .ok (.iload_n 1, 1) := by decide +kernel
theorem dX8_far_33 : decode cX8_far 33 = .ok (.iload_n 2, 1) := by decide +kernel
theorem dX8_far_34 : decode cX8_far 34 = .ok (.invokevirtual 104, 3) := by decide +kernel
theorem dX8_far_37 : decode cX8_far 37 = .ok (.invokestatic 108, 3) := by decide +kernel
theorem dX8_far_40 : decode cX8_far 40 = .ok (.ireturn, 1) := by decide +kernel
theorem dX8_late_0 : decode cX8_late 0 = .ok (.aload_n 0, 1) := by decide +kernel
theorem dX8_late_1 : decode cX8_late 1 = .ok (.getfield 20, 3) := by decide +kernel
theorem dX8_late_4 : decode cX8_late 4 = .ok (.iload_n 1, 1) := by decide +kernel
theorem dX8_late_5 : decode cX8_late 5 = .ok (.invokevirtual 73, 3) := by decide +kernel
theorem dX8_late_8 : decode cX8_late 8 = .ok (.ifCond .ne 9, 3) := by decide +kernel
theorem dX8_late_11 : decode cX8_late 11 = .ok (.aload_n 0, 1) := by decide +kernel
theorem dX8_late_12 : decode cX8_late 12 = .ok (.iconst (-1), 1) := by decide +kernel
theorem dX8_late_13 : decode cX8_late 13 = .ok (.invokevirtual 59, 3) := by decide +kernel
theorem dX8_late_16 : decode cX8_late 16 = .ok (.ireturn, 1) := by decide +kernel
theorem dX8_late_17 : decode cX8_late 17 = .ok (.aload_n 0, 1) := by decide +kernel
theorem dX8_late_18 : decode cX8_late 18 = .ok (.getfield 20, 3) := by decide +kernel
theorem dX8_late_21 : decode cX8_late 21 = .ok (.iload_n 1, 1) := by decide +kernel
theorem dX8_late_22 : decode cX8_late 22 = .ok (.invokevirtual 111, 3) := by decide +kernel
theorem dX8_late_25 : decode cX8_late 25 = .ok (.invokestatic 108, 3) := by decide +kernel
theorem dX8_late_28 : decode cX8_late 28 = .ok (.ireturn, 1) := by decide +kernel
theorem dX8_hours_0 : decode cX8_hours 0 = .ok (.iload_n 1, 1) := by decide +kernel
theorem dX8_hours_1 : decode cX8_hours 1 = .ok (.iconst 1, 1) := by decide +kernel
theorem dX8_hours_2 : decode cX8_hours 2 = .ok (.if_icmp .ge 10, 3) := by decide +kernel
theorem dX8_hours_5 : decode cX8_hours 5 = .ok (.aload_n 0, 1) := by decide +kernel
theorem dX8_hours_6 : decode cX8_hours 6 = .ok (.bipush (-4), 2) := by decide +kernel
theorem dX8_hours_8 : decode cX8_hours 8 = .ok (.invokevirtual 59, 3) := by decide +kernel
theorem dX8_hours_11 : decode cX8_hours 11 = .ok (.ireturn, 1) := by decide +kernel
theorem dX8_hours_12 : decode cX8_hours 12 = .ok (.iload_n 1, 1) := by decide +kernel
theorem dX8_hours_13 : decode cX8_hours 13 = .ok (.sipush 2000, 3) := by decide +kernel
theorem dX8_hours_16 : decode cX8_hours 16 = .ok (.aload_n 0, 1) := by decide +kernel
theorem dX8_hours_17 : decode cX8_hours 17 = .ok (.getfield 95, 3) := by decide +kernel
theorem dX8_hours_20 : decode cX8_hours 20 = .ok (.isub, 1) := by decide +kernel
theorem dX8_hours_21 : decode cX8_hours 21 = .ok (.if_icmp .le 10, 3) := by decide +kernel
theorem dX8_hours_24 : decode cX8_hours 24 = .ok (.aload_n 0, 1) := by decide +kernel
theorem dX8_hours_25 : decode cX8_hours 25 = .ok (.bipush (-6), 2) := by decide +kernel
theorem dX8_hours_27 : decode cX8_hours 27 = .ok (.invokevirtual 59, 3) := by decide +kernel
theorem dX8_hours_30 : decode cX8_hours 30 = .ok (.ireturn, 1) := by decide +kernel
theorem dX8_hours_31 : decode cX8_hours 31 = .ok (.iconst 0, 1) := by decide +kernel
theorem dX8_hours_32 : decode cX8_hours 32 = .ok (.istore_n 2, 1) := by decide +kernel
theorem dX8_hours_33 : decode cX8_hours 33 = .ok (.iload_n 2, 1) := by decide +kernel
theorem dX8_hours_34 : decode cX8_hours 34 = .ok (.iload_n 1, 1) := by decide +kernel
theorem dX8_hours_35 : decode cX8_hours 35 = .ok (.if_icmp .ge 34, 3) := by decide +kernel
theorem dX8_hours_38 : decode cX8_hours 38 = .ok (.aload_n 0, 1) := by decide +kernel
theorem dX8_hours_39 : decode cX8_hours 39 = .ok (.getfield 10, 3) := by decide +kernel
theorem dX8_hours_42 : decode cX8_hours 42 = .ok (.aload_n 0, 1) := by decide +kernel
theorem dX8_hours_43 : decode cX8_hours 43 = .ok (.getfield 41, 3) := by decide +kernel
theorem dX8_hours_46 : decode cX8_hours 46 = .ok (.aload_n 0, 1) := by decide +kernel
theorem dX8_hours_47 : decode cX8_hours 47 = .ok (.getfield 95, 3) := by decide +kernel
theorem dX8_hours_50 : decode cX8_hours 50 = .ok (.invokevirtual 114, 3) := by decide +kernel
theorem dX8_hours_53 : decode cX8_hours 53 = .ok (.aload_n 0, 1) := by decide +kernel
theorem dX8_hours_54 : decode cX8_hours 54 = .ok (.dup, 1) := by decide +kernel
theorem dX8_hours_55 : decode cX8_hours 55 = .ok (.getfield 95, 3) := by decide +kernel
theorem dX8_hours_58 : decode cX8_hours 58 = .ok (.iconst 1, 1) := by decide +kernel
theorem dX8_hours_59 : decode cX8_hours 59 = .ok (.iadd, 1) := by decide +kernel
theorem dX8_hours_60 : decode cX8_hours 60 = .ok (.putfield 95, 3) := by decide +kernel
theorem dX8_hours_63 : decode cX8_hours 63 = .ok (.iinc 2 1, 3) := by decide +kernel
theorem dX8_hours_66 : decode cX8_hours 66 = .ok (.goto (-33), 3) := by decide +kernel
theorem dX8_hours_69 : decode cX8_hours 69 = .ok (.aload_n 0, 1) := by decide +kernel
theorem dX8_hours_70 : decode cX8_hours 70 = .ok (.getfield 95, 3) := by decide +kernel
theorem dX8_hours_73 : decode cX8_hours 73 = .ok (.ireturn, 1) := by decide +kernel
theorem dX8_move_0 : decode cX8_move 0 = .ok (.iload_n 1, 1) := by decide +kernel
theorem dX8_move_1 : decode cX8_move 1 = .ok (.invokestatic 118, 3) := by decide +kernel
theorem dX8_move_4 : decode cX8_move 4 = .ok (.ifCond .eq 14, 3) := by decide +kernel
theorem dX8_move_7 : decode cX8_move 7 = .ok (.aload_n 0, 1) := by decide +kernel
theorem dX8_move_8 : decode cX8_move 8 = .ok (.getfield 20, 3) := by decide +kernel
theorem dX8_move_11 : decode cX8_move 11 = .ok (.iload_n 2, 1) := by decide +kernel
theorem dX8_move_12 : decode cX8_move 12 = .ok (.invokevirtual 73, 3) := by decide +kernel
theorem dX8_move_15 : decode cX8_move 15 = .ok (.ifCond .ne 9, 3) := by decide +kernel
theorem dX8_move_18 : decode cX8_move 18 = .ok (.aload_n 0, 1) := by decide +kernel
theorem dX8_move_19 : decode cX8_move 19 = .ok (.iconst (-1), 1) := by decide +kernel
theorem dX8_move_20 : decode cX8_move 20 = .ok (.invokevirtual 59, 3) := by decide +kernel
theorem dX8_move_23 : decode cX8_move 23 = .ok (.ireturn, 1) := by decide +kernel
theorem dX8_move_24 : decode cX8_move 24 = .ok (.iload_n 3, 1) := by decide +kernel
theorem dX8_move_25 : decode cX8_move 25 = .ok (.aload_n 0, 1) := by decide +kernel
theorem dX8_move_26 : decode cX8_move 26 = .ok (.getfield 95, 3) := by decide +kernel
theorem dX8_move_29 : decode cX8_move 29 = .ok (.if_icmp .ge 10, 3) := by decide +kernel
theorem dX8_move_32 : decode cX8_move 32 = .ok (.aload_n 0, 1) := by decide +kernel
theorem dX8_move_33 : decode cX8_move 33 = .ok (.bipush (-4), 2) := by decide +kernel
theorem dX8_move_35 : decode cX8_move 35 = .ok (.invokevirtual 59, 3) := by decide +kernel
theorem dX8_move_38 : decode cX8_move 38 = .ok (.ireturn, 1) := by decide +kernel
theorem dX8_move_39 : decode cX8_move 39 = .ok (.iload_n 3, 1) := by decide +kernel
theorem dX8_move_40 : decode cX8_move 40 = .ok (.sipush 2000, 3) := by decide +kernel
theorem dX8_move_43 : decode cX8_move 43 = .ok (.if_icmp .gt 15, 3) := by decide +kernel
theorem dX8_move_46 : decode cX8_move 46 = .ok (.aload_n 0, 1) := by decide +kernel
theorem dX8_move_47 : decode cX8_move 47 = .ok (.getfield 25, 3) := by decide +kernel
theorem dX8_move_50 : decode cX8_move 50 = .ok (.getfield 121, 3) := by decide +kernel
theorem dX8_move_53 : decode cX8_move 53 = .ok (.bipush 60, 2) := by decide +kernel
theorem dX8_move_55 : decode cX8_move 55 = .ok (.if_icmp .lt 10, 3) := by decide +kernel
theorem dX8_move_58 : decode cX8_move 58 = .ok (.aload_n 0, 1) := by decide +kernel
theorem dX8_move_59 : decode cX8_move 59 = .ok (.bipush (-6), 2) := by decide +kernel
theorem dX8_move_61 : decode cX8_move 61 = .ok (.invokevirtual 59, 3) := by decide +kernel
theorem dX8_move_64 : decode cX8_move 64 = .ok (.ireturn, 1) := by decide +kernel
theorem dX8_move_65 : decode cX8_move 65 = .ok (.aload_n 0, 1) := by decide +kernel
theorem dX8_move_66 : decode cX8_move 66 = .ok (.getfield 25, 3) := by decide +kernel
theorem dX8_move_69 : decode cX8_move 69 = .ok (.iload_n 1, 1) := by decide +kernel
theorem dX8_move_70 : decode cX8_move 70 = .ok (.iload_n 2, 1) := by decide +kernel
theorem dX8_move_71 : decode cX8_move 71 = .ok (.iload_n 3, 1) := by decide +kernel
theorem dX8_move_72 : decode cX8_move 72 = .ok (.aload_n 0, 1) := by decide +kernel
theorem dX8_move_73 : decode cX8_move 73 = .ok (.getfield 95, 3) := by decide +kernel
theorem dX8_move_76 : decode cX8_move 76 = .ok (.invokevirtual 126, 3) := by decide +kernel
theorem dX8_move_79 : decode cX8_move 79 = .ok (.ireturn, 1) := by decide +kernel
theorem dX8_is_0 : decode cX8_is 0 = .ok (.iload_n 1, 1) := by decide +kernel
theorem dX8_is_1 : decode cX8_is 1 = .ok (.invokestatic 118, 3) := by decide +kernel
theorem dX8_is_4 : decode cX8_is 4 = .ok (.ifCond .eq 14, 3) := by decide +kernel
theorem dX8_is_7 : decode cX8_is 7 = .ok (.iload_n 2, 1) := by decide +kernel
theorem dX8_is_8 : decode cX8_is 8 = .ok (.iconst 0, 1) := by decide +kernel
theorem dX8_is_9 : decode cX8_is 9 = .ok (.sipush 2000, 3) := by decide +kernel
theorem dX8_is_12 : decode cX8_is 12 = .ok (.invokestatic 77, 3) := by decide +kernel
theorem dX8_is_15 : decode cX8_is 15 = .ok (.goto 4, 3) := by decide +kernel
theorem dX8_is_18 : decode cX8_is 18 = .ok (.iconst (-1), 1) := by decide +kernel
theorem dX8_is_19 : decode cX8_is 19 = .ok (.istore_n 3, 1) := by decide +kernel
theorem dX8_is_20 : decode cX8_is 20 = .ok (.iload_n 3, 1) := by decide +kernel
theorem dX8_is_21 : decode cX8_is 21 = .ok (.ifCond .ge 11, 3) := by decide +kernel
theorem dX8_is_24 : decode cX8_is 24 = .ok (.aload_n 0, 1) := by decide +kernel
theorem dX8_is_25 : decode cX8_is 25 = .ok (.iload_n 3, 1) := by decide +kernel
theorem dX8_is_26 : decode cX8_is 26 = .ok (.invokevirtual 59, 3) := by decide +kernel
theorem dX8_is_29 : decode cX8_is 29 = .ok (.goto 13, 3) := by decide +kernel
theorem dX8_is_32 : decode cX8_is 32 = .ok (.aload_n 0, 1) := by decide +kernel
theorem dX8_is_33 : decode cX8_is 33 = .ok (.getfield 25, 3) := by decide +kernel
theorem dX8_is_36 : decode cX8_is 36 = .ok (.iload_n 1, 1) := by decide +kernel
theorem dX8_is_37 : decode cX8_is 37 = .ok (.iload_n 2, 1) := by decide +kernel
theorem dX8_is_38 : decode cX8_is 38 = .ok (.iconst 0, 1) := by decide +kernel
theorem dX8_is_39 : decode cX8_is 39 = .ok (.invokevirtual 130, 3) := by decide +kernel
theorem dX8_is_42 : decode cX8_is 42 = .ok (.ireturn, 1) := by decide +kernel
theorem dX8_list_0 : decode cX8_list 0 = .ok (.aload_n 0, 1) := by decide +kernel
theorem dX8_list_1 : decode cX8_list 1 = .ok (.getfield 20, 3) := by decide +kernel
theorem dX8_list_4 : decode cX8_list 4 = .ok (.iload_n 1, 1) := by decide +kernel
theorem dX8_list_5 : decode cX8_list 5 = .ok (.invokevirtual 73, 3) := by decide +kernel
theorem dX8_list_8 : decode cX8_list 8 = .ok (.ifCond .eq 14, 3) := by decide +kernel
theorem dX8_list_11 : decode cX8_list 11 = .ok (.iload_n 2, 1) := by decide +kernel
theorem dX8_list_12 : decode cX8_list 12 = .ok (.invokestatic 118, 3) := by decide +kernel
theorem dX8_list_15 : decode cX8_list 15 = .ok (.ifCond .eq 7, 3) := by decide +kernel
theorem dX8_list_18 : decode cX8_list 18 = .ok (.iconst 1, 1) := by decide +kernel
theorem dX8_list_19 : decode cX8_list 19 = .ok (.goto 4, 3) := by decide +kernel
theorem dX8_list_22 : decode cX8_list 22 = .ok (.iconst 0, 1) := by decide +kernel
theorem dX8_list_23 : decode cX8_list 23 = .ok (.istore 4, 2) := by decide +kernel
theorem dX8_list_25 : decode cX8_list 25 = .ok (.iload 4, 2) := by decide +kernel
theorem dX8_list_27 : decode cX8_list 27 = .ok (.ifCond .eq 14, 3) := by decide +kernel
theorem dX8_list_30 : decode cX8_list 30 = .ok (.iload_n 3, 1) := by decide +kernel
theorem dX8_list_31 : decode cX8_list 31 = .ok (.iconst 0, 1) := by decide +kernel
theorem dX8_list_32 : decode cX8_list 32 = .ok (.sipush 2000, 3) := by decide +kernel
theorem dX8_list_35 : decode cX8_list 35 = .ok (.invokestatic 77, 3) := by decide +kernel
theorem dX8_list_38 : decode cX8_list 38 = .ok (.goto 4, 3) := by decide +kernel
theorem dX8_list_41 : decode cX8_list 41 = .ok (.iconst (-1), 1) := by decide +kernel
theorem dX8_list_42 : decode cX8_list 42 = .ok (.istore 5, 2) := by decide +kernel
theorem dX8_list_44 : decode cX8_list 44 = .ok (.iload 5, 2) := by decide +kernel
theorem dX8_list_46 : decode cX8_list 46 = .ok (.ifCond .ge 12, 3) := by decide +kernel
theorem dX8_list_49 : decode cX8_list 49 = .ok (.aload_n 0, 1) := by decide +kernel
theorem dX8_list_50 : decode cX8_list 50 = .ok (.iload 5, 2) := by decide +kernel
theorem dX8_list_52 : decode cX8_list 52 = .ok (.invokevirtual 59, 3) := by decide +kernel
theorem dX8_list_55 : decode cX8_list 55 = .ok (.goto 20, 3) := by decide +kernel
theorem dX8_list_58 : decode cX8_list 58 = .ok (.aload_n 0, 1) := by decide +kernel
theorem dX8_list_59 : decode cX8_list 59 = .ok (.getfield 25, 3) := by decide +kernel
theorem dX8_list_62 : decode cX8_list 62 = .ok (.iload_n 2, 1) := by decide +kernel
theorem dX8_list_63 : decode cX8_list 63 = .ok (.iload_n 3, 1) := by decide +kernel
theorem dX8_list_64 : decode cX8_list 64 = .ok (.aload_n 0, 1) := by decide +kernel
theorem dX8_list_65 : decode cX8_list 65 = .ok (.getfield 20, 3) := by decide +kernel
theorem dX8_list_68 : decode cX8_list 68 = .ok (.iload_n 1, 1) := by decide +kernel
theorem dX8_list_69 : decode cX8_list 69 = .ok (.invokevirtual 111, 3) := by decide +kernel
theorem dX8_list_72 : decode cX8_list 72 = .ok (.invokevirtual 130, 3) := by decide +kernel
theorem dX8_list_75 : decode cX8_list 75 = .ok (.ireturn, 1) := by decide +kernel
theorem dX8_man_0 : decode cX8_man 0 = .ok (.iload_n 1, 1) := by decide +kernel
theorem dX8_man_1 : decode cX8_man 1 = .ok (.invokestatic 118, 3) := by decide +kernel
theorem dX8_man_4 : decode cX8_man 4 = .ok (.ifCond .ne 9, 3) := by decide +kernel
theorem dX8_man_7 : decode cX8_man 7 = .ok (.aload_n 0, 1) := by decide +kernel
theorem dX8_man_8 : decode cX8_man 8 = .ok (.iconst (-1), 1) := by decide +kernel
theorem dX8_man_9 : decode cX8_man 9 = .ok (.invokevirtual 59, 3) := by decide +kernel
theorem dX8_man_12 : decode cX8_man 12 = .ok (.ireturn, 1) := by decide +kernel
theorem dX8_man_13 : decode cX8_man 13 = .ok (.iload_n 2, 1) := by decide +kernel
theorem dX8_man_14 : decode cX8_man 14 = .ok (.ifCond .ge 10, 3) := by decide +kernel
theorem dX8_man_17 : decode cX8_man 17 = .ok (.aload_n 0, 1) := by decide +kernel
theorem dX8_man_18 : decode cX8_man 18 = .ok (.bipush (-4), 2) := by decide +kernel
theorem dX8_man_20 : decode cX8_man 20 = .ok (.invokevirtual 59, 3) := by decide +kernel
theorem dX8_man_23 : decode cX8_man 23 = .ok (.ireturn, 1) := by decide +kernel
theorem dX8_man_24 : decode cX8_man 24 = .ok (.iload_n 2, 1) := by decide +kernel
theorem dX8_man_25 : decode cX8_man 25 = .ok (.sipush 9999, 3) := by decide +kernel
theorem dX8_man_28 : decode cX8_man 28 = .ok (.if_icmp .gt 15, 3) := by decide +kernel
theorem dX8_man_31 : decode cX8_man 31 = .ok (.aload_n 0, 1) := by decide +kernel
theorem dX8_man_32 : decode cX8_man 32 = .ok (.getfield 25, 3) := by decide +kernel
theorem dX8_man_35 : decode cX8_man 35 = .ok (.getfield 133, 3) := by decide +kernel
theorem dX8_man_38 : decode cX8_man 38 = .ok (.bipush 40, 2) := by decide +kernel
theorem dX8_man_40 : decode cX8_man 40 = .ok (.if_icmp .lt 10, 3) := by decide +kernel
theorem dX8_man_43 : decode cX8_man 43 = .ok (.aload_n 0, 1) := by decide +kernel
theorem dX8_man_44 : decode cX8_man 44 = .ok (.bipush (-6), 2) := by decide +kernel
theorem dX8_man_46 : decode cX8_man 46 = .ok (.invokevirtual 59, 3) := by decide +kernel
theorem dX8_man_49 : decode cX8_man 49 = .ok (.ireturn, 1) := by decide +kernel
theorem dX8_man_50 : decode cX8_man 50 = .ok (.aload_n 0, 1) := by decide +kernel
theorem dX8_man_51 : decode cX8_man 51 = .ok (.getfield 25, 3) := by decide +kernel
theorem dX8_man_54 : decode cX8_man 54 = .ok (.iload_n 1, 1) := by decide +kernel
theorem dX8_man_55 : decode cX8_man 55 = .ok (.iload_n 2, 1) := by decide +kernel
theorem dX8_man_56 : decode cX8_man 56 = .ok (.invokevirtual 136, 3) := by decide +kernel
theorem dX8_man_59 : decode cX8_man 59 = .ok (.ireturn, 1) := by decide +kernel
theorem dX8_state_0 : decode cX8_state 0 = .ok (.aload_n 0, 1) := by decide +kernel
theorem dX8_state_1 : decode cX8_state 1 = .ok (.getfield 25, 3) := by decide +kernel
theorem dX8_state_4 : decode cX8_state 4 = .ok (.iload_n 1, 1) := by decide +kernel
theorem dX8_state_5 : decode cX8_state 5 = .ok (.invokevirtual 139, 3) := by decide +kernel
theorem dX8_state_8 : decode cX8_state 8 = .ok (.ifCond .eq 19, 3) := by decide +kernel
theorem dX8_state_11 : decode cX8_state 11 = .ok (.iload_n 2, 1) := by decide +kernel
theorem dX8_state_12 : decode cX8_state 12 = .ok (.iconst 1, 1) := by decide +kernel
theorem dX8_state_13 : decode cX8_state 13 = .ok (.if_icmp .ne 20, 3) := by decide +kernel
theorem dX8_state_16 : decode cX8_state 16 = .ok (.aload_n 0, 1) := by decide +kernel
theorem dX8_state_17 : decode cX8_state 17 = .ok (.getfield 20, 3) := by decide +kernel
theorem dX8_state_20 : decode cX8_state 20 = .ok (.iload_n 3, 1) := by decide +kernel
theorem dX8_state_21 : decode cX8_state 21 = .ok (.invokevirtual 73, 3) := by decide +kernel
theorem dX8_state_24 : decode cX8_state 24 = .ok (.ifCond .ne 9, 3) := by decide +kernel
theorem dX8_state_27 : decode cX8_state 27 = .ok (.aload_n 0, 1) := by decide +kernel
theorem dX8_state_28 : decode cX8_state 28 = .ok (.iconst (-1), 1) := by decide +kernel
theorem dX8_state_29 : decode cX8_state 29 = .ok (.invokevirtual 59, 3) := by decide +kernel
theorem dX8_state_32 : decode cX8_state 32 = .ok (.ireturn, 1) := by decide +kernel
theorem dX8_state_33 : decode cX8_state 33 = .ok (.iload_n 2, 1) := by decide +kernel
theorem dX8_state_34 : decode cX8_state 34 = .ok (.ifCond .lt 8, 3) := by decide +kernel
theorem dX8_state_37 : decode cX8_state 37 = .ok (.iload_n 2, 1) := by decide +kernel
theorem dX8_state_38 : decode cX8_state 38 = .ok (.iconst 3, 1) := by decide +kernel
theorem dX8_state_39 : decode cX8_state 39 = .ok (.if_icmp .le 10, 3) := by decide +kernel
theorem dX8_state_42 : decode cX8_state 42 = .ok (.aload_n 0, 1) := by decide +kernel
theorem dX8_state_43 : decode cX8_state 43 = .ok (.bipush (-2), 2) := by decide +kernel
theorem dX8_state_45 : decode cX8_state 45 = .ok (.invokevirtual 59, 3) := by decide +kernel
theorem dX8_state_48 : decode cX8_state 48 = .ok (.ireturn, 1) := by decide +kernel
theorem dX8_state_49 : decode cX8_state 49 = .ok (.aload_n 0, 1) := by decide +kernel
theorem dX8_state_50 : decode cX8_state 50 = .ok (.getfield 25, 3) := by decide +kernel
theorem dX8_state_53 : decode cX8_state 53 = .ok (.getfield 142, 3) := by decide +kernel
theorem dX8_state_56 : decode cX8_state 56 = .ok (.bipush 80, 2) := by decide +kernel
theorem dX8_state_58 : decode cX8_state 58 = .ok (.if_icmp .lt 10, 3) := by decide +kernel
theorem dX8_state_61 : decode cX8_state 61 = .ok (.aload_n 0, 1) := by decide +kernel
theorem dX8_state_62 : decode cX8_state 62 = .ok (.bipush (-6), 2) := by decide +kernel
theorem dX8_state_64 : decode cX8_state 64 = .ok (.invokevirtual 59, 3) := by decide +kernel
theorem dX8_state_67 : decode cX8_state 67 = .ok (.ireturn, 1) := by decide +kernel
theorem dX8_state_68 : decode cX8_state 68 = .ok (.aload_n 0, 1) := by decide +kernel
theorem dX8_state_69 : decode cX8_state 69 = .ok (.getfield 25, 3) := by decide +kernel
theorem dX8_state_72 : decode cX8_state 72 = .ok (.iload_n 1, 1) := by decide +kernel
theorem dX8_state_73 : decode cX8_state 73 = .ok (.iload_n 2, 1) := by decide +kernel
theorem dX8_state_74 : decode cX8_state 74 = .ok (.iload_n 3, 1) := by decide +kernel
theorem dX8_state_75 : decode cX8_state 75 = .ok (.aload_n 0, 1) := by decide +kernel
theorem dX8_state_76 : decode cX8_state 76 = .ok (.getfield 95, 3) := by decide +kernel
theorem dX8_state_79 : decode cX8_state 79 = .ok (.invokevirtual 145, 3) := by decide +kernel
theorem dX8_state_82 : decode cX8_state 82 = .ok (.ireturn, 1) := by decide +kernel
theorem dX8_stateOf_0 : decode cX8_stateOf 0 = .ok (.iload_n 3, 1) := by decide +kernel
theorem dX8_stateOf_1 : decode cX8_stateOf 1 = .ok (.iconst (-1), 1) := by decide +kernel
theorem dX8_stateOf_2 : decode cX8_stateOf 2 = .ok (.if_icmp .ne 7, 3) := by decide +kernel
theorem dX8_stateOf_5 : decode cX8_stateOf 5 = .ok (.iconst 1, 1) := by decide +kernel
theorem dX8_stateOf_6 : decode cX8_stateOf 6 = .ok (.goto 4, 3) := by decide +kernel
theorem dX8_stateOf_9 : decode cX8_stateOf 9 = .ok (.iconst 0, 1) := by decide +kernel
theorem dX8_stateOf_10 : decode cX8_stateOf 10 = .ok (.istore 4, 2) := by decide +kernel
theorem dX8_stateOf_12 : decode cX8_stateOf 12 = .ok (.aload_n 0, 1) := by decide +kernel
theorem dX8_stateOf_13 : decode cX8_stateOf 13 = .ok (.getfield 25, 3) := by decide +kernel
theorem dX8_stateOf_16 : decode cX8_stateOf 16 = .ok (.iload_n 1, 1) := by decide +kernel
theorem dX8_stateOf_17 : decode cX8_stateOf 17 = .ok (.invokevirtual 139, 3) := by decide +kernel
theorem dX8_stateOf_20 : decode cX8_stateOf 20 = .ok (.ifCond .eq 23, 3) := by decide +kernel
theorem dX8_stateOf_23 : decode cX8_stateOf 23 = .ok (.iload 4, 2) := by decide +kernel
theorem dX8_stateOf_25 : decode cX8_stateOf 25 = .ok (.ifCond .ne 14, 3) := by decide +kernel
theorem dX8_stateOf_28 : decode cX8_stateOf 28 = .ok (.aload_n 0, 1) := by decide +kernel
theorem dX8_stateOf_29 : decode cX8_stateOf 29 = .ok (.getfield 20, 3) := by decide +kernel
theorem dX8_stateOf_32 : decode cX8_stateOf 32 = .ok (.iload_n 3, 1) := by decide +kernel
theorem dX8_stateOf_33 : decode cX8_stateOf 33 = .ok (.invokevirtual 73, 3) := by decide +kernel
theorem dX8_stateOf_36 : decode cX8_stateOf 36 = .ok (.ifCond .eq 7, 3) := by decide +kernel
theorem dX8_stateOf_39 : decode cX8_stateOf 39 = .ok (.iconst 1, 1) := by decide +kernel
theorem dX8_stateOf_40 : decode cX8_stateOf 40 = .ok (.goto 4, 3) := by decide +kernel
theorem dX8_stateOf_43 : decode cX8_stateOf 43 = .ok (.iconst 0, 1) := by decide +kernel
theorem dX8_stateOf_44 : decode cX8_stateOf 44 = .ok (.istore 5, 2) := by decide +kernel
theorem dX8_stateOf_46 : decode cX8_stateOf 46 = .ok (.iload 5, 2) := by decide +kernel
theorem dX8_stateOf_48 : decode cX8_stateOf 48 = .ok (.ifCond .eq 14, 3) := by decide +kernel
theorem dX8_stateOf_51 : decode cX8_stateOf 51 = .ok (.iload_n 2, 1) := by decide +kernel
theorem dX8_stateOf_52 : decode cX8_stateOf 52 = .ok (.iconst 0, 1) := by decide +kernel
theorem dX8_stateOf_53 : decode cX8_stateOf 53 = .ok (.sipush 2000, 3) := by decide +kernel
theorem dX8_stateOf_56 : decode cX8_stateOf 56 = .ok (.invokestatic 77, 3) := by decide +kernel
theorem dX8_stateOf_59 : decode cX8_stateOf 59 = .ok (.goto 4, 3) := by decide +kernel
theorem dX8_stateOf_62 : decode cX8_stateOf 62 = .ok (.iconst (-1), 1) := by decide +kernel
theorem dX8_stateOf_63 : decode cX8_stateOf 63 = .ok (.istore 6, 2) := by decide +kernel
theorem dX8_stateOf_65 : decode cX8_stateOf 65 = .ok (.iload 6, 2) := by decide +kernel
theorem dX8_stateOf_67 : decode cX8_stateOf 67 = .ok (.ifCond .ge 10, 3) := by decide +kernel
theorem dX8_stateOf_70 : decode cX8_stateOf 70 = .ok (.aload_n 0, 1) := by decide +kernel
theorem dX8_stateOf_71 : decode cX8_stateOf 71 = .ok (.iload 6, 2) := by decide +kernel
theorem dX8_stateOf_73 : decode cX8_stateOf 73 = .ok (.invokevirtual 59, 3) := by decide +kernel
theorem dX8_stateOf_76 : decode cX8_stateOf 76 = .ok (.ireturn, 1) := by decide +kernel
theorem dX8_stateOf_77 : decode cX8_stateOf 77 = .ok (.aload_n 0, 1) := by decide +kernel
theorem dX8_stateOf_78 : decode cX8_stateOf 78 = .ok (.getfield 25, 3) := by decide +kernel
theorem dX8_stateOf_81 : decode cX8_stateOf 81 = .ok (.iload_n 1, 1) := by decide +kernel
theorem dX8_stateOf_82 : decode cX8_stateOf 82 = .ok (.iload_n 2, 1) := by decide +kernel
theorem dX8_stateOf_83 : decode cX8_stateOf 83 = .ok (.iload 4, 2) := by decide +kernel
theorem dX8_stateOf_85 : decode cX8_stateOf 85 = .ok (.ifCond .eq 7, 3) := by decide +kernel
theorem dX8_stateOf_88 : decode cX8_stateOf 88 = .ok (.iconst 0, 1) := by decide +kernel
theorem dX8_stateOf_89 : decode cX8_stateOf 89 = .ok (.goto 11, 3) := by decide +kernel
theorem dX8_stateOf_92 : decode cX8_stateOf 92 = .ok (.aload_n 0, 1) := by decide +kernel
theorem dX8_stateOf_93 : decode cX8_stateOf 93 = .ok (.getfield 20, 3) := by decide +kernel
theorem dX8_stateOf_96 : decode cX8_stateOf 96 = .ok (.iload_n 3, 1) := by decide +kernel
theorem dX8_stateOf_97 : decode cX8_stateOf 97 = .ok (.invokevirtual 111, 3) := by decide +kernel
theorem dX8_stateOf_100 : decode cX8_stateOf 100 = .ok (.invokevirtual 148, 3) := by decide +kernel
theorem dX8_stateOf_103 : decode cX8_stateOf 103 = .ok (.ireturn, 1) := by decide +kernel
theorem dX8_manAt_0 : decode cX8_manAt 0 = .ok (.aload_n 0, 1) := by decide +kernel
theorem dX8_manAt_1 : decode cX8_manAt 1 = .ok (.getfield 25, 3) := by decide +kernel
theorem dX8_manAt_4 : decode cX8_manAt 4 = .ok (.iload_n 1, 1) := by decide +kernel
theorem dX8_manAt_5 : decode cX8_manAt 5 = .ok (.invokevirtual 139, 3) := by decide +kernel
theorem dX8_manAt_8 : decode cX8_manAt 8 = .ok (.ifCond .ne 9, 3) := by decide +kernel
theorem dX8_manAt_11 : decode cX8_manAt 11 = .ok (.aload_n 0, 1) := by decide +kernel
theorem dX8_manAt_12 : decode cX8_manAt 12 = .ok (.iconst (-1), 1) := by decide +kernel
theorem dX8_manAt_13 : decode cX8_manAt 13 = .ok (.invokevirtual 59, 3) := by decide +kernel
theorem dX8_manAt_16 : decode cX8_manAt 16 = .ok (.ireturn, 1) := by decide +kernel
theorem dX8_manAt_17 : decode cX8_manAt 17 = .ok (.aload_n 0, 1) := by decide +kernel
theorem dX8_manAt_18 : decode cX8_manAt 18 = .ok (.getfield 25, 3) := by decide +kernel
theorem dX8_manAt_21 : decode cX8_manAt 21 = .ok (.iload_n 1, 1) := by decide +kernel
theorem dX8_manAt_22 : decode cX8_manAt 22 = .ok (.aload_n 0, 1) := by decide +kernel
theorem dX8_manAt_23 : decode cX8_manAt 23 = .ok (.getfield 95, 3) := by decide +kernel
theorem dX8_manAt_26 : decode cX8_manAt 26 = .ok (.invokevirtual 151, 3) := by decide +kernel
theorem dX8_manAt_29 : decode cX8_manAt 29 = .ok (.ireturn, 1) := by decide +kernel
theorem dX8_mail_0 : decode cX8_mail 0 = .ok (.iload_n 1, 1) := by decide +kernel
theorem dX8_mail_1 : decode cX8_mail 1 = .ok (.ifCond .lt 8, 3) := by decide +kernel
theorem dX8_mail_4 : decode cX8_mail 4 = .ok (.iload_n 1, 1) := by decide +kernel
theorem dX8_mail_5 : decode cX8_mail 5 = .ok (.iconst 2, 1) := by decide +kernel
theorem dX8_mail_6 : decode cX8_mail 6 = .ok (.if_icmp .le 10, 3) := by decide +kernel
theorem dX8_mail_9 : decode cX8_mail 9 = .ok (.aload_n 0, 1) := by decide +kernel
theorem dX8_mail_10 : decode cX8_mail 10 = .ok (.bipush (-2), 2) := by decide +kernel
theorem dX8_mail_12 : decode cX8_mail 12 = .ok (.invokevirtual 59, 3) := by decide +kernel
theorem dX8_mail_15 : decode cX8_mail 15 = .ok (.ireturn, 1) := by decide +kernel
theorem dX8_mail_16 : decode cX8_mail 16 = .ok (.aload_n 0, 1) := by decide +kernel
theorem dX8_mail_17 : decode cX8_mail 17 = .ok (.getfield 20, 3) := by decide +kernel
theorem dX8_mail_20 : decode cX8_mail 20 = .ok (.iload_n 2, 1) := by decide +kernel
theorem dX8_mail_21 : decode cX8_mail 21 = .ok (.invokevirtual 73, 3) := by decide +kernel
theorem dX8_mail_24 : decode cX8_mail 24 = .ok (.ifCond .eq 14, 3) := by decide +kernel
theorem dX8_mail_27 : decode cX8_mail 27 = .ok (.aload_n 0, 1) := by decide +kernel
theorem dX8_mail_28 : decode cX8_mail 28 = .ok (.getfield 25, 3) := by decide +kernel
theorem dX8_mail_31 : decode cX8_mail 31 = .ok (.iload_n 3, 1) := by decide +kernel
theorem dX8_mail_32 : decode cX8_mail 32 = .ok (.invokevirtual 139, 3) := by decide +kernel
theorem dX8_mail_35 : decode cX8_mail 35 = .ok (.ifCond .ne 9, 3) := by decide +kernel
theorem dX8_mail_38 : decode cX8_mail 38 = .ok (.aload_n 0, 1) := by decide +kernel
theorem dX8_mail_39 : decode cX8_mail 39 = .ok (.iconst (-1), 1) := by decide +kernel
theorem dX8_mail_40 : decode cX8_mail 40 = .ok (.invokevirtual 59, 3) := by decide +kernel
theorem dX8_mail_43 : decode cX8_mail 43 = .ok (.ireturn, 1) := by decide +kernel
theorem dX8_mail_44 : decode cX8_mail 44 = .ok (.iload 4, 2) := by decide +kernel
theorem dX8_mail_46 : decode cX8_mail 46 = .ok (.iload_n 1, 1) := by decide +kernel
theorem dX8_mail_47 : decode cX8_mail 47 = .ok (.iconst 1, 1) := by decide +kernel
theorem dX8_mail_48 : decode cX8_mail 48 = .ok (.if_icmp .ne 7, 3) := by decide +kernel
theorem dX8_mail_51 : decode cX8_mail 51 = .ok (.iconst 1, 1) := by decide +kernel
theorem dX8_mail_52 : decode cX8_mail 52 = .ok (.goto 4, 3) := by decide +kernel
theorem dX8_mail_55 : decode cX8_mail 55 = .ok (.iconst 0, 1) := by decide +kernel
theorem dX8_mail_56 : decode cX8_mail 56 = .ok (.if_icmp .ge 10, 3) := by decide +kernel
theorem dX8_mail_59 : decode cX8_mail 59 = .ok (.aload_n 0, 1) := by decide +kernel
theorem dX8_mail_60 : decode cX8_mail 60 = .ok (.bipush (-4), 2) := by decide +kernel
theorem dX8_mail_62 : decode cX8_mail 62 = .ok (.invokevirtual 59, 3) := by decide +kernel
theorem dX8_mail_65 : decode cX8_mail 65 = .ok (.ireturn, 1) := by decide +kernel
theorem dX8_mail_66 : decode cX8_mail 66 = .ok (.iload 4, 2) := by decide +kernel
theorem dX8_mail_68 : decode cX8_mail 68 = .ok (.iload_n 1, 1) := by decide +kernel
theorem dX8_mail_69 : decode cX8_mail 69 = .ok (.invokestatic 154, 3) := by decide +kernel
theorem dX8_mail_72 : decode cX8_mail 72 = .ok (.if_icmp .gt 15, 3) := by decide +kernel
theorem dX8_mail_75 : decode cX8_mail 75 = .ok (.aload_n 0, 1) := by decide +kernel
theorem dX8_mail_76 : decode cX8_mail 76 = .ok (.getfield 35, 3) := by decide +kernel
theorem dX8_mail_79 : decode cX8_mail 79 = .ok (.getfield 157, 3) := by decide +kernel
theorem dX8_mail_82 : decode cX8_mail 82 = .ok (.bipush 60, 2) := by decide +kernel
theorem dX8_mail_84 : decode cX8_mail 84 = .ok (.if_icmp .lt 10, 3) := by decide +kernel
theorem dX8_mail_87 : decode cX8_mail 87 = .ok (.aload_n 0, 1) := by decide +kernel
theorem dX8_mail_88 : decode cX8_mail 88 = .ok (.bipush (-6), 2) := by decide +kernel
theorem dX8_mail_90 : decode cX8_mail 90 = .ok (.invokevirtual 59, 3) := by decide +kernel
theorem dX8_mail_93 : decode cX8_mail 93 = .ok (.ireturn, 1) := by decide +kernel
theorem dX8_mail_94 : decode cX8_mail 94 = .ok (.aload_n 0, 1) := by decide +kernel
theorem dX8_mail_95 : decode cX8_mail 95 = .ok (.getfield 35, 3) := by decide +kernel
theorem dX8_mail_98 : decode cX8_mail 98 = .ok (.iload_n 1, 1) := by decide +kernel
theorem dX8_mail_99 : decode cX8_mail 99 = .ok (.iload_n 2, 1) := by decide +kernel
theorem dX8_mail_100 : decode cX8_mail 100 = .ok (.iload_n 3, 1) := by decide +kernel
theorem dX8_mail_101 : decode cX8_mail 101 = .ok (.iload 4, 2) := by decide +kernel
theorem dX8_mail_103 : decode cX8_mail 103 = .ok (.aload_n 0, 1) := by decide +kernel
theorem dX8_mail_104 : decode cX8_mail 104 = .ok (.getfield 95, 3) := by decide +kernel
theorem dX8_mail_107 : decode cX8_mail 107 = .ok (.invokevirtual 162, 3) := by decide +kernel
theorem dX8_mail_110 : decode cX8_mail 110 = .ok (.istore 5, 2) := by decide +kernel
theorem dX8_mail_112 : decode cX8_mail 112 = .ok (.aload_n 0, 1) := by decide +kernel
theorem dX8_mail_113 : decode cX8_mail 113 = .ok (.getfield 41, 3) := by decide +kernel
theorem dX8_mail_116 : decode cX8_mail 116 = .ok (.iload 5, 2) := by decide +kernel
theorem dX8_mail_118 : decode cX8_mail 118 = .ok (.iload_n 2, 1) := by decide +kernel
theorem dX8_mail_119 : decode cX8_mail 119 = .ok (.aload_n 0, 1) := by decide +kernel
theorem dX8_mail_120 : decode cX8_mail 120 = .ok (.getfield 95, 3) := by decide +kernel
theorem dX8_mail_123 : decode cX8_mail 123 = .ok (.invokevirtual 165, 3) := by decide +kernel
theorem dX8_mail_126 : decode cX8_mail 126 = .ok (.iload 5, 2) := by decide +kernel
theorem dX8_mail_128 : decode cX8_mail 128 = .ok (.ireturn, 1) := by decide +kernel
theorem dX8_feed_0 : decode cX8_feed 0 = .ok (.iload_n 1, 1) := by decide +kernel
theorem dX8_feed_1 : decode cX8_feed 1 = .ok (.iconst 1, 1) := by decide +kernel
theorem dX8_feed_2 : decode cX8_feed 2 = .ok (.if_icmp .ge 10, 3) := by decide +kernel
theorem dX8_feed_5 : decode cX8_feed 5 = .ok (.aload_n 0, 1) := by decide +kernel
theorem dX8_feed_6 : decode cX8_feed 6 = .ok (.bipush (-4), 2) := by decide +kernel
theorem dX8_feed_8 : decode cX8_feed 8 = .ok (.invokevirtual 59, 3) := by decide +kernel
theorem dX8_feed_11 : decode cX8_feed 11 = .ok (.ireturn, 1) := by decide +kernel
theorem dX8_feed_12 : decode cX8_feed 12 = .ok (.iload_n 1, 1) := by decide +kernel
theorem dX8_feed_13 : decode cX8_feed 13 = .ok (.bipush 8, 2) := by decide +kernel
theorem dX8_feed_15 : decode cX8_feed 15 = .ok (.if_icmp .gt 17, 3) := by decide +kernel
theorem dX8_feed_18 : decode cX8_feed 18 = .ok (.iload_n 1, 1) := by decide +kernel
theorem dX8_feed_19 : decode cX8_feed 19 = .ok (.bipush 60, 2) := by decide +kernel
theorem dX8_feed_21 : decode cX8_feed 21 = .ok (.aload_n 0, 1) := by decide +kernel
theorem dX8_feed_22 : decode cX8_feed 22 = .ok (.getfield 30, 3) := by decide +kernel
theorem dX8_feed_25 : decode cX8_feed 25 = .ok (.getfield 169, 3) := by decide +kernel
theorem dX8_feed_28 : decode cX8_feed 28 = .ok (.isub, 1) := by decide +kernel
theorem dX8_feed_29 : decode cX8_feed 29 = .ok (.if_icmp .le 10, 3) := by decide +kernel
theorem dX8_feed_32 : decode cX8_feed 32 = .ok (.aload_n 0, 1) := by decide +kernel
theorem dX8_feed_33 : decode cX8_feed 33 = .ok (.bipush (-6), 2) := by decide +kernel
theorem dX8_feed_35 : decode cX8_feed 35 = .ok (.invokevirtual 59, 3) := by decide +kernel
theorem dX8_feed_38 : decode cX8_feed 38 = .ok (.ireturn, 1) := by decide +kernel
theorem dX8_feed_39 : decode cX8_feed 39 = .ok (.aload_n 0, 1) := by decide +kernel
theorem dX8_feed_40 : decode cX8_feed 40 = .ok (.getfield 30, 3) := by decide +kernel
theorem dX8_feed_43 : decode cX8_feed 43 = .ok (.iload_n 1, 1) := by decide +kernel
theorem dX8_feed_44 : decode cX8_feed 44 = .ok (.lload_n 2, 1) := by decide +kernel
theorem dX8_feed_45 : decode cX8_feed 45 = .ok (.invokevirtual 174, 3) := by decide +kernel
theorem dX8_feed_48 : decode cX8_feed 48 = .ok (.ireturn, 1) := by decide +kernel
theorem dX8_order_0 : decode cX8_order 0 = .ok (.iload_n 1, 1) := by decide +kernel
theorem dX8_order_1 : decode cX8_order 1 = .ok (.invokestatic 178, 3) := by decide +kernel
theorem dX8_order_4 : decode cX8_order 4 = .ok (.ifCond .ne 10, 3) := by decide +kernel
theorem dX8_order_7 : decode cX8_order 7 = .ok (.aload_n 0, 1) := by decide +kernel
theorem dX8_order_8 : decode cX8_order 8 = .ok (.bipush (-2), 2) := by decide +kernel
theorem dX8_order_10 : decode cX8_order 10 = .ok (.invokevirtual 59, 3) := by decide +kernel
theorem dX8_order_13 : decode cX8_order 13 = .ok (.ireturn, 1) := by decide +kernel
theorem dX8_order_14 : decode cX8_order 14 = .ok (.aload_n 0, 1) := by decide +kernel
theorem dX8_order_15 : decode cX8_order 15 = .ok (.getfield 30, 3) := by decide +kernel
theorem dX8_order_18 : decode cX8_order 18 = .ok (.getfield 181, 3) := by decide +kernel
theorem dX8_order_21 : decode cX8_order 21 = .ok (.bipush 30, 2) := by decide +kernel
theorem dX8_order_23 : decode cX8_order 23 = .ok (.if_icmp .lt 10, 3) := by decide +kernel
theorem dX8_order_26 : decode cX8_order 26 = .ok (.aload_n 0, 1) := by decide +kernel
theorem dX8_order_27 : decode cX8_order 27 = .ok (.bipush (-6), 2) := by decide +kernel
theorem dX8_order_29 : decode cX8_order 29 = .ok (.invokevirtual 59, 3) := by decide +kernel
theorem dX8_order_32 : decode cX8_order 32 = .ok (.ireturn, 1) := by decide +kernel
theorem dX8_order_33 : decode cX8_order 33 = .ok (.aload_n 0, 1) := by decide +kernel
theorem dX8_order_34 : decode cX8_order 34 = .ok (.getfield 30, 3) := by decide +kernel
theorem dX8_order_37 : decode cX8_order 37 = .ok (.iload_n 1, 1) := by decide +kernel
theorem dX8_order_38 : decode cX8_order 38 = .ok (.aload_n 0, 1) := by decide +kernel
theorem dX8_order_39 : decode cX8_order 39 = .ok (.getfield 95, 3) := by decide +kernel
theorem dX8_order_42 : decode cX8_order 42 = .ok (.invokevirtual 182, 3) := by decide +kernel
theorem dX8_order_45 : decode cX8_order 45 = .ok (.istore_n 2, 1) := by decide +kernel
theorem dX8_order_46 : decode cX8_order 46 = .ok (.iload_n 2, 1) := by decide +kernel
theorem dX8_order_47 : decode cX8_order 47 = .ok (.ifCond .ge 13, 3) := by decide +kernel
theorem dX8_order_50 : decode cX8_order 50 = .ok (.aload_n 0, 1) := by decide +kernel
theorem dX8_order_51 : decode cX8_order 51 = .ok (.getfield 30, 3) := by decide +kernel
theorem dX8_order_54 : decode cX8_order 54 = .ok (.getfield 181, 3) := by decide +kernel
theorem dX8_order_57 : decode cX8_order 57 = .ok (.goto 7, 3) := by decide +kernel
theorem dX8_order_60 : decode cX8_order 60 = .ok (.bipush (-20), 2) := by decide +kernel
theorem dX8_order_62 : decode cX8_order 62 = .ok (.iload_n 2, 1) := by decide +kernel
theorem dX8_order_63 : decode cX8_order 63 = .ok (.isub, 1) := by decide +kernel
theorem dX8_order_64 : decode cX8_order 64 = .ok (.ireturn, 1) := by decide +kernel
theorem dX8_holds_0 : decode cX8_holds 0 = .ok (.iload_n 1, 1) := by decide +kernel
theorem dX8_holds_1 : decode cX8_holds 1 = .ok (.invokestatic 178, 3) := by decide +kernel
theorem dX8_holds_4 : decode cX8_holds 4 = .ok (.ifCond .ne 10, 3) := by decide +kernel
theorem dX8_holds_7 : decode cX8_holds 7 = .ok (.aload_n 0, 1) := by decide +kernel
theorem dX8_holds_8 : decode cX8_holds 8 = .ok (.bipush (-2), 2) := by decide +kernel
theorem dX8_holds_10 : decode cX8_holds 10 = .ok (.invokevirtual 59, 3) := by decide +kernel
theorem dX8_holds_13 : decode cX8_holds 13 = .ok (.ireturn, 1) := by decide +kernel
theorem dX8_holds_14 : decode cX8_holds 14 = .ok (.aload_n 0, 1) := by decide +kernel
theorem dX8_holds_15 : decode cX8_holds 15 = .ok (.iload_n 2, 1) := by decide +kernel
theorem dX8_holds_16 : decode cX8_holds 16 = .ok (.invokevirtual 185, 3) := by decide +kernel
theorem dX8_holds_19 : decode cX8_holds 19 = .ok (.istore_n 3, 1) := by decide +kernel
theorem dX8_holds_20 : decode cX8_holds 20 = .ok (.iload_n 3, 1) := by decide +kernel
theorem dX8_holds_21 : decode cX8_holds 21 = .ok (.ifCond .ge 9, 3) := by decide +kernel
theorem dX8_holds_24 : decode cX8_holds 24 = .ok (.aload_n 0, 1) := by decide +kernel
theorem dX8_holds_25 : decode cX8_holds 25 = .ok (.iload_n 3, 1) := by decide +kernel
theorem dX8_holds_26 : decode cX8_holds 26 = .ok (.invokevirtual 59, 3) := by decide +kernel
theorem dX8_holds_29 : decode cX8_holds 29 = .ok (.ireturn, 1) := by decide +kernel
theorem dX8_holds_30 : decode cX8_holds 30 = .ok (.aload_n 0, 1) := by decide +kernel
theorem dX8_holds_31 : decode cX8_holds 31 = .ok (.getfield 10, 3) := by decide +kernel
theorem dX8_holds_34 : decode cX8_holds 34 = .ok (.aload_n 0, 1) := by decide +kernel
theorem dX8_holds_35 : decode cX8_holds 35 = .ok (.getfield 41, 3) := by decide +kernel
theorem dX8_holds_38 : decode cX8_holds 38 = .ok (.iload_n 2, 1) := by decide +kernel
theorem dX8_holds_39 : decode cX8_holds 39 = .ok (.aload_n 0, 1) := by decide +kernel
theorem dX8_holds_40 : decode cX8_holds 40 = .ok (.getfield 95, 3) := by decide +kernel
theorem dX8_holds_43 : decode cX8_holds 43 = .ok (.invokevirtual 188, 3) := by decide +kernel
theorem dX8_holds_46 : decode cX8_holds 46 = .ok (.aload_n 0, 1) := by decide +kernel
theorem dX8_holds_47 : decode cX8_holds 47 = .ok (.getfield 10, 3) := by decide +kernel
theorem dX8_holds_50 : decode cX8_holds 50 = .ok (.iload_n 1, 1) := by decide +kernel
theorem dX8_holds_51 : decode cX8_holds 51 = .ok (.aload_n 0, 1) := by decide +kernel
theorem dX8_holds_52 : decode cX8_holds 52 = .ok (.getfield 41, 3) := by decide +kernel
theorem dX8_holds_55 : decode cX8_holds 55 = .ok (.getfield 192, 3) := by decide +kernel
theorem dX8_holds_58 : decode cX8_holds 58 = .ok (.iload_n 2, 1) := by decide +kernel
theorem dX8_holds_59 : decode cX8_holds 59 = .ok (.iaload, 1) := by decide +kernel
theorem dX8_holds_60 : decode cX8_holds 60 = .ok (.aload_n 0, 1) := by decide +kernel
theorem dX8_holds_61 : decode cX8_holds 61 = .ok (.getfield 95, 3) := by decide +kernel
theorem dX8_holds_64 : decode cX8_holds 64 = .ok (.invokevirtual 195, 3) := by decide +kernel
theorem dX8_holds_67 : decode cX8_holds 67 = .ok (.ifCond .eq 7, 3) := by decide +kernel
theorem dX8_holds_70 : decode cX8_holds 70 = .ok (.iconst 1, 1) := by decide +kernel
theorem dX8_holds_71 : decode cX8_holds 71 = .ok (.goto 4, 3) := by decide +kernel
theorem dX8_holds_74 : decode cX8_holds 74 = .ok (.iconst 0, 1) := by decide +kernel
theorem dX8_holds_75 : decode cX8_holds 75 = .ok (.ireturn, 1) := by decide +kernel
theorem dX8_keep_0 : decode cX8_keep 0 = .ok (.iload_n 1, 1) := by decide +kernel
theorem dX8_keep_1 : decode cX8_keep 1 = .ok (.iconst 1, 1) := by decide +kernel
theorem dX8_keep_2 : decode cX8_keep 2 = .ok (.sipush 999, 3) := by decide +kernel
theorem dX8_keep_5 : decode cX8_keep 5 = .ok (.invokestatic 77, 3) := by decide +kernel
theorem dX8_keep_8 : decode cX8_keep 8 = .ok (.istore_n 2, 1) := by decide +kernel
theorem dX8_keep_9 : decode cX8_keep 9 = .ok (.iload_n 2, 1) := by decide +kernel
theorem dX8_keep_10 : decode cX8_keep 10 = .ok (.ifCond .ge 9, 3) := by decide +kernel
theorem dX8_keep_13 : decode cX8_keep 13 = .ok (.aload_n 0, 1) := by decide +kernel
theorem dX8_keep_14 : decode cX8_keep 14 = .ok (.iload_n 2, 1) := by decide +kernel
theorem dX8_keep_15 : decode cX8_keep 15 = .ok (.invokevirtual 59, 3) := by decide +kernel
theorem dX8_keep_18 : decode cX8_keep 18 = .ok (.ireturn, 1) := by decide +kernel
theorem dX8_keep_19 : decode cX8_keep 19 = .ok (.aload_n 0, 1) := by decide +kernel
theorem dX8_keep_20 : decode cX8_keep 20 = .ok (.getfield 10, 3) := by decide +kernel
theorem dX8_keep_23 : decode cX8_keep 23 = .ok (.getfield 199, 3) := by decide +kernel
theorem dX8_keep_26 : decode cX8_keep 26 = .ok (.istore_n 3, 1) := by decide +kernel
theorem dX8_keep_27 : decode cX8_keep 27 = .ok (.aload_n 0, 1) := by decide +kernel
theorem dX8_keep_28 : decode cX8_keep 28 = .ok (.getfield 10, 3) := by decide +kernel
theorem dX8_keep_31 : decode cX8_keep 31 = .ok (.iload_n 1, 1) := by decide +kernel
theorem dX8_keep_32 : decode cX8_keep 32 = .ok (.putfield 199, 3) := by decide +kernel
theorem dX8_keep_35 : decode cX8_keep 35 = .ok (.iload_n 3, 1) := by decide +kernel
theorem dX8_keep_36 : decode cX8_keep 36 = .ok (.ireturn, 1) := by decide +kernel
theorem dX8_mailOf_0 : decode cX8_mailOf 0 = .ok (.aload_n 0, 1) := by decide +kernel
theorem dX8_mailOf_1 : decode cX8_mailOf 1 = .ok (.getfield 35, 3) := by decide +kernel
theorem dX8_mailOf_4 : decode cX8_mailOf 4 = .ok (.iload_n 1, 1) := by decide +kernel
theorem dX8_mailOf_5 : decode cX8_mailOf 5 = .ok (.invokevirtual 202, 3) := by decide +kernel
theorem dX8_mailOf_8 : decode cX8_mailOf 8 = .ok (.ifCond .ne 9, 3) := by decide +kernel
theorem dX8_mailOf_11 : decode cX8_mailOf 11 = .ok (.aload_n 0, 1) := by decide +kernel
theorem dX8_mailOf_12 : decode cX8_mailOf 12 = .ok (.iconst (-1), 1) := by decide +kernel
theorem dX8_mailOf_13 : decode cX8_mailOf 13 = .ok (.invokevirtual 59, 3) := by decide +kernel
theorem dX8_mailOf_16 : decode cX8_mailOf 16 = .ok (.ireturn, 1) := by decide +kernel
theorem dX8_mailOf_17 : decode cX8_mailOf 17 = .ok (.iload_n 2, 1) := by decide +kernel
theorem dX8_mailOf_18 : decode cX8_mailOf 18 = .ok (.tableswitch 142 0 7 #[46, 56, 66, 76, 86, 104, 114, 124], 46) := by decide +kernel
theorem dX8_mailOf_64 : decode cX8_mailOf 64 = .ok (.aload_n 0, 1) := by decide +kernel
theorem dX8_mailOf_65 : decode cX8_mailOf 65 = .ok (.getfield 35, 3) := by decide +kernel
theorem dX8_mailOf_68 : decode cX8_mailOf 68 = .ok (.getfield 205, 3) := by decide +kernel
theorem dX8_mailOf_71 : decode cX8_mailOf 71 = .ok (.iload_n 1, 1) := by decide +kernel
theorem dX8_mailOf_72 : decode cX8_mailOf 72 = .ok (.iaload, 1) := by decide +kernel
theorem dX8_mailOf_73 : decode cX8_mailOf 73 = .ok (.ireturn, 1) := by decide +kernel
theorem dX8_mailOf_74 : decode cX8_mailOf 74 = .ok (.aload_n 0, 1) := by decide +kernel
theorem dX8_mailOf_75 : decode cX8_mailOf 75 = .ok (.getfield 41, 3) := by decide +kernel
theorem dX8_mailOf_78 : decode cX8_mailOf 78 = .ok (.getfield 208, 3) := by decide +kernel
theorem dX8_mailOf_81 : decode cX8_mailOf 81 = .ok (.iload_n 1, 1) := by decide +kernel
theorem dX8_mailOf_82 : decode cX8_mailOf 82 = .ok (.iaload, 1) := by decide +kernel
theorem dX8_mailOf_83 : decode cX8_mailOf 83 = .ok (.ireturn, 1) := by decide +kernel
theorem dX8_mailOf_84 : decode cX8_mailOf 84 = .ok (.aload_n 0, 1) := by decide +kernel
theorem dX8_mailOf_85 : decode cX8_mailOf 85 = .ok (.getfield 41, 3) := by decide +kernel
theorem dX8_mailOf_88 : decode cX8_mailOf 88 = .ok (.getfield 192, 3) := by decide +kernel
theorem dX8_mailOf_91 : decode cX8_mailOf 91 = .ok (.iload_n 1, 1) := by decide +kernel
theorem dX8_mailOf_92 : decode cX8_mailOf 92 = .ok (.iaload, 1) := by decide +kernel
theorem dX8_mailOf_93 : decode cX8_mailOf 93 = .ok (.ireturn, 1) := by decide +kernel
theorem dX8_mailOf_94 : decode cX8_mailOf 94 = .ok (.aload_n 0, 1) := by decide +kernel
theorem dX8_mailOf_95 : decode cX8_mailOf 95 = .ok (.getfield 41, 3) := by decide +kernel
theorem dX8_mailOf_98 : decode cX8_mailOf 98 = .ok (.getfield 211, 3) := by decide +kernel
theorem dX8_mailOf_101 : decode cX8_mailOf 101 = .ok (.iload_n 1, 1) := by decide +kernel
theorem dX8_mailOf_102 : decode cX8_mailOf 102 = .ok (.iaload, 1) := by decide +kernel
theorem dX8_mailOf_103 : decode cX8_mailOf 103 = .ok (.ireturn, 1) := by decide +kernel
theorem dX8_mailOf_104 : decode cX8_mailOf 104 = .ok (.aload_n 0, 1) := by decide +kernel
theorem dX8_mailOf_105 : decode cX8_mailOf 105 = .ok (.getfield 41, 3) := by decide +kernel
theorem dX8_mailOf_108 : decode cX8_mailOf 108 = .ok (.getfield 214, 3) := by decide +kernel
theorem dX8_mailOf_111 : decode cX8_mailOf 111 = .ok (.iload_n 1, 1) := by decide +kernel
theorem dX8_mailOf_112 : decode cX8_mailOf 112 = .ok (.baload, 1) := by decide +kernel
theorem dX8_mailOf_113 : decode cX8_mailOf 113 = .ok (.ifCond .eq 7, 3) := by decide +kernel
theorem dX8_mailOf_116 : decode cX8_mailOf 116 = .ok (.iconst 1, 1) := by decide +kernel
theorem dX8_mailOf_117 : decode cX8_mailOf 117 = .ok (.goto 4, 3) := by decide +kernel
theorem dX8_mailOf_120 : decode cX8_mailOf 120 = .ok (.iconst 0, 1) := by decide +kernel
theorem dX8_mailOf_121 : decode cX8_mailOf 121 = .ok (.ireturn, 1) := by decide +kernel
theorem dX8_mailOf_122 : decode cX8_mailOf 122 = .ok (.aload_n 0, 1) := by decide +kernel
theorem dX8_mailOf_123 : decode cX8_mailOf 123 = .ok (.getfield 41, 3) := by decide +kernel
theorem dX8_mailOf_126 : decode cX8_mailOf 126 = .ok (.getfield 218, 3) := by decide +kernel
theorem dX8_mailOf_129 : decode cX8_mailOf 129 = .ok (.iload_n 1, 1) := by decide +kernel
theorem dX8_mailOf_130 : decode cX8_mailOf 130 = .ok (.iaload, 1) := by decide +kernel
theorem dX8_mailOf_131 : decode cX8_mailOf 131 = .ok (.ireturn, 1) := by decide +kernel
theorem dX8_mailOf_132 : decode cX8_mailOf 132 = .ok (.aload_n 0, 1) := by decide +kernel
theorem dX8_mailOf_133 : decode cX8_mailOf 133 = .ok (.getfield 41, 3) := by decide +kernel
theorem dX8_mailOf_136 : decode cX8_mailOf 136 = .ok (.getfield 221, 3) := by decide +kernel
theorem dX8_mailOf_139 : decode cX8_mailOf 139 = .ok (.iload_n 1, 1) := by decide +kernel
theorem dX8_mailOf_140 : decode cX8_mailOf 140 = .ok (.iaload, 1) := by decide +kernel
theorem dX8_mailOf_141 : decode cX8_mailOf 141 = .ok (.ireturn, 1) := by decide +kernel
theorem dX8_mailOf_142 : decode cX8_mailOf 142 = .ok (.aload_n 0, 1) := by decide +kernel
theorem dX8_mailOf_143 : decode cX8_mailOf 143 = .ok (.getfield 41, 3) := by decide +kernel
theorem dX8_mailOf_146 : decode cX8_mailOf 146 = .ok (.getfield 224, 3) := by decide +kernel
theorem dX8_mailOf_149 : decode cX8_mailOf 149 = .ok (.iload_n 1, 1) := by decide +kernel
theorem dX8_mailOf_150 : decode cX8_mailOf 150 = .ok (.baload, 1) := by decide +kernel
theorem dX8_mailOf_151 : decode cX8_mailOf 151 = .ok (.ifCond .eq 7, 3) := by decide +kernel
theorem dX8_mailOf_154 : decode cX8_mailOf 154 = .ok (.iconst 1, 1) := by decide +kernel
theorem dX8_mailOf_155 : decode cX8_mailOf 155 = .ok (.goto 4, 3) := by decide +kernel
theorem dX8_mailOf_158 : decode cX8_mailOf 158 = .ok (.iconst 0, 1) := by decide +kernel
theorem dX8_mailOf_159 : decode cX8_mailOf 159 = .ok (.ireturn, 1) := by decide +kernel
theorem dX8_mailOf_160 : decode cX8_mailOf 160 = .ok (.aload_n 0, 1) := by decide +kernel
theorem dX8_mailOf_161 : decode cX8_mailOf 161 = .ok (.bipush (-2), 2) := by decide +kernel
theorem dX8_mailOf_163 : decode cX8_mailOf 163 = .ok (.invokevirtual 59, 3) := by decide +kernel
theorem dX8_mailOf_166 : decode cX8_mailOf 166 = .ok (.ireturn, 1) := by decide +kernel
theorem dX8_goal_0 : decode cX8_goal 0 = .ok (.aload_n 0, 1) := by decide +kernel
theorem dX8_goal_1 : decode cX8_goal 1 = .ok (.iload_n 1, 1) := by decide +kernel
theorem dX8_goal_2 : decode cX8_goal 2 = .ok (.invokevirtual 185, 3) := by decide +kernel
theorem dX8_goal_5 : decode cX8_goal 5 = .ok (.istore_n 2, 1) := by decide +kernel
theorem dX8_goal_6 : decode cX8_goal 6 = .ok (.iload_n 2, 1) := by decide +kernel
theorem dX8_goal_7 : decode cX8_goal 7 = .ok (.ifCond .ge 11, 3) := by decide +kernel
theorem dX8_goal_10 : decode cX8_goal 10 = .ok (.aload_n 0, 1) := by decide +kernel
theorem dX8_goal_11 : decode cX8_goal 11 = .ok (.iload_n 2, 1) := by decide +kernel
theorem dX8_goal_12 : decode cX8_goal 12 = .ok (.invokevirtual 59, 3) := by decide +kernel
theorem dX8_goal_15 : decode cX8_goal 15 = .ok (.goto 19, 3) := by decide +kernel
theorem dX8_goal_18 : decode cX8_goal 18 = .ok (.aload_n 0, 1) := by decide +kernel
theorem dX8_goal_19 : decode cX8_goal 19 = .ok (.getfield 10, 3) := by decide +kernel
theorem dX8_goal_22 : decode cX8_goal 22 = .ok (.aload_n 0, 1) := by decide +kernel
theorem dX8_goal_23 : decode cX8_goal 23 = .ok (.getfield 41, 3) := by decide +kernel
theorem dX8_goal_26 : decode cX8_goal 26 = .ok (.iload_n 1, 1) := by decide +kernel
theorem dX8_goal_27 : decode cX8_goal 27 = .ok (.aload_n 0, 1) := by decide +kernel
theorem dX8_goal_28 : decode cX8_goal 28 = .ok (.getfield 95, 3) := by decide +kernel
theorem dX8_goal_31 : decode cX8_goal 31 = .ok (.invokevirtual 227, 3) := by decide +kernel
theorem dX8_goal_34 : decode cX8_goal 34 = .ok (.ireturn, 1) := by decide +kernel
theorem dX8_next_0 : decode cX8_next 0 = .ok (.aload_n 0, 1) := by decide +kernel
theorem dX8_next_1 : decode cX8_next 1 = .ok (.iload_n 1, 1) := by decide +kernel
theorem dX8_next_2 : decode cX8_next 2 = .ok (.invokevirtual 185, 3) := by decide +kernel
theorem dX8_next_5 : decode cX8_next 5 = .ok (.istore_n 2, 1) := by decide +kernel
theorem dX8_next_6 : decode cX8_next 6 = .ok (.iload_n 2, 1) := by decide +kernel
theorem dX8_next_7 : decode cX8_next 7 = .ok (.ifCond .ge 9, 3) := by decide +kernel
theorem dX8_next_10 : decode cX8_next 10 = .ok (.aload_n 0, 1) := by decide +kernel
theorem dX8_next_11 : decode cX8_next 11 = .ok (.iload_n 2, 1) := by decide +kernel
theorem dX8_next_12 : decode cX8_next 12 = .ok (.invokevirtual 59, 3) := by decide +kernel
theorem dX8_next_15 : decode cX8_next 15 = .ok (.ireturn, 1) := by decide +kernel
theorem dX8_next_16 : decode cX8_next 16 = .ok (.aload_n 0, 1) := by decide +kernel
theorem dX8_next_17 : decode cX8_next 17 = .ok (.getfield 20, 3) := by decide +kernel
theorem dX8_next_20 : decode cX8_next 20 = .ok (.aload_n 0, 1) := by decide +kernel
theorem dX8_next_21 : decode cX8_next 21 = .ok (.getfield 41, 3) := by decide +kernel
theorem dX8_next_24 : decode cX8_next 24 = .ok (.getfield 192, 3) := by decide +kernel
theorem dX8_next_27 : decode cX8_next 27 = .ok (.iload_n 1, 1) := by decide +kernel
theorem dX8_next_28 : decode cX8_next 28 = .ok (.iaload, 1) := by decide +kernel
theorem dX8_next_29 : decode cX8_next 29 = .ok (.aload_n 0, 1) := by decide +kernel
theorem dX8_next_30 : decode cX8_next 30 = .ok (.getfield 10, 3) := by decide +kernel
theorem dX8_next_33 : decode cX8_next 33 = .ok (.aload_n 0, 1) := by decide +kernel
theorem dX8_next_34 : decode cX8_next 34 = .ok (.getfield 41, 3) := by decide +kernel
theorem dX8_next_37 : decode cX8_next 37 = .ok (.iload_n 1, 1) := by decide +kernel
theorem dX8_next_38 : decode cX8_next 38 = .ok (.aload_n 0, 1) := by decide +kernel
theorem dX8_next_39 : decode cX8_next 39 = .ok (.getfield 95, 3) := by decide +kernel
theorem dX8_next_42 : decode cX8_next 42 = .ok (.invokevirtual 227, 3) := by decide +kernel
theorem dX8_next_45 : decode cX8_next 45 = .ok (.invokevirtual 231, 3) := by decide +kernel
theorem dX8_next_48 : decode cX8_next 48 = .ok (.ireturn, 1) := by decide +kernel
theorem dX8_trace_0 : decode cX8_trace 0 = .ok (.aload_n 0, 1) := by decide +kernel
theorem dX8_trace_1 : decode cX8_trace 1 = .ok (.getfield 35, 3) := by decide +kernel
theorem dX8_trace_4 : decode cX8_trace 4 = .ok (.iload_n 1, 1) := by decide +kernel
theorem dX8_trace_5 : decode cX8_trace 5 = .ok (.invokevirtual 202, 3) := by decide +kernel
theorem dX8_trace_8 : decode cX8_trace 8 = .ok (.ifCond .ne 9, 3) := by decide +kernel
theorem dX8_trace_11 : decode cX8_trace 11 = .ok (.aload_n 0, 1) := by decide +kernel
theorem dX8_trace_12 : decode cX8_trace 12 = .ok (.iconst (-1), 1) := by decide +kernel
theorem dX8_trace_13 : decode cX8_trace 13 = .ok (.invokevirtual 59, 3) := by decide +kernel
theorem dX8_trace_16 : decode cX8_trace 16 = .ok (.ireturn, 1) := by decide +kernel
theorem dX8_trace_17 : decode cX8_trace 17 = .ok (.aload_n 0, 1) := by decide +kernel
theorem dX8_trace_18 : decode cX8_trace 18 = .ok (.getfield 41, 3) := by decide +kernel
theorem dX8_trace_21 : decode cX8_trace 21 = .ok (.iload_n 1, 1) := by decide +kernel
theorem dX8_trace_22 : decode cX8_trace 22 = .ok (.iload_n 2, 1) := by decide +kernel
theorem dX8_trace_23 : decode cX8_trace 23 = .ok (.invokevirtual 234, 3) := by decide +kernel
theorem dX8_trace_26 : decode cX8_trace 26 = .ok (.ireturn, 1) := by decide +kernel
theorem dX8_fro_0 : decode cX8_fro 0 = .ok (.aload_n 0, 1) := by decide +kernel
theorem dX8_fro_1 : decode cX8_fro 1 = .ok (.getfield 35, 3) := by decide +kernel
theorem dX8_fro_4 : decode cX8_fro 4 = .ok (.iload_n 1, 1) := by decide +kernel
theorem dX8_fro_5 : decode cX8_fro 5 = .ok (.invokevirtual 202, 3) := by decide +kernel
theorem dX8_fro_8 : decode cX8_fro 8 = .ok (.ifCond .ne 9, 3) := by decide +kernel
theorem dX8_fro_11 : decode cX8_fro 11 = .ok (.aload_n 0, 1) := by decide +kernel
theorem dX8_fro_12 : decode cX8_fro 12 = .ok (.iconst (-1), 1) := by decide +kernel
theorem dX8_fro_13 : decode cX8_fro 13 = .ok (.invokevirtual 59, 3) := by decide +kernel
theorem dX8_fro_16 : decode cX8_fro 16 = .ok (.ireturn, 1) := by decide +kernel
theorem dX8_fro_17 : decode cX8_fro 17 = .ok (.aload_n 0, 1) := by decide +kernel
theorem dX8_fro_18 : decode cX8_fro 18 = .ok (.getfield 41, 3) := by decide +kernel
theorem dX8_fro_21 : decode cX8_fro 21 = .ok (.iload_n 1, 1) := by decide +kernel
theorem dX8_fro_22 : decode cX8_fro 22 = .ok (.invokevirtual 237, 3) := by decide +kernel
theorem dX8_fro_25 : decode cX8_fro 25 = .ok (.ireturn, 1) := by decide +kernel
theorem dX8_after_0 : decode cX8_after 0 = .ok (.aload_n 0, 1) := by decide +kernel
theorem dX8_after_1 : decode cX8_after 1 = .ok (.getfield 35, 3) := by decide +kernel
theorem dX8_after_4 : decode cX8_after 4 = .ok (.iload_n 1, 1) := by decide +kernel
theorem dX8_after_5 : decode cX8_after 5 = .ok (.invokevirtual 202, 3) := by decide +kernel
theorem dX8_after_8 : decode cX8_after 8 = .ok (.ifCond .ne 9, 3) := by decide +kernel
theorem dX8_after_11 : decode cX8_after 11 = .ok (.aload_n 0, 1) := by decide +kernel
theorem dX8_after_12 : decode cX8_after 12 = .ok (.iconst (-1), 1) := by decide +kernel
theorem dX8_after_13 : decode cX8_after 13 = .ok (.invokevirtual 59, 3) := by decide +kernel
theorem dX8_after_16 : decode cX8_after 16 = .ok (.ireturn, 1) := by decide +kernel
theorem dX8_after_17 : decode cX8_after 17 = .ok (.iload_n 2, 1) := by decide +kernel
theorem dX8_after_18 : decode cX8_after 18 = .ok (.ifCond .eq 15, 3) := by decide +kernel
theorem dX8_after_21 : decode cX8_after 21 = .ok (.iload_n 2, 1) := by decide +kernel
theorem dX8_after_22 : decode cX8_after 22 = .ok (.iconst 1, 1) := by decide +kernel
theorem dX8_after_23 : decode cX8_after 23 = .ok (.if_icmp .eq 10, 3) := by decide +kernel
theorem dX8_after_26 : decode cX8_after 26 = .ok (.aload_n 0, 1) := by decide +kernel
theorem dX8_after_27 : decode cX8_after 27 = .ok (.bipush (-2), 2) := by decide +kernel
theorem dX8_after_29 : decode cX8_after 29 = .ok (.invokevirtual 59, 3) := by decide +kernel
theorem dX8_after_32 : decode cX8_after 32 = .ok (.ireturn, 1) := by decide +kernel
theorem dX8_after_33 : decode cX8_after 33 = .ok (.aload_n 0, 1) := by decide +kernel
theorem dX8_after_34 : decode cX8_after 34 = .ok (.getfield 41, 3) := by decide +kernel
theorem dX8_after_37 : decode cX8_after 37 = .ok (.iload_n 1, 1) := by decide +kernel
theorem dX8_after_38 : decode cX8_after 38 = .ok (.invokevirtual 240, 3) := by decide +kernel
theorem dX8_after_41 : decode cX8_after 41 = .ok (.ifCond .eq 13, 3) := by decide +kernel
theorem dX8_after_44 : decode cX8_after 44 = .ok (.aload_n 0, 1) := by decide +kernel
theorem dX8_after_45 : decode cX8_after 45 = .ok (.getfield 41, 3) := by decide +kernel
theorem dX8_after_48 : decode cX8_after 48 = .ok (.iload_n 1, 1) := by decide +kernel
theorem dX8_after_49 : decode cX8_after 49 = .ok (.iload_n 2, 1) := by decide +kernel
theorem dX8_after_50 : decode cX8_after 50 = .ok (.invokestatic 243, 3) := by decide +kernel
theorem dX8_after_53 : decode cX8_after 53 = .ok (.ireturn, 1) := by decide +kernel
theorem dX8_after_54 : decode cX8_after 54 = .ok (.aload_n 0, 1) := by decide +kernel
theorem dX8_after_55 : decode cX8_after 55 = .ok (.getfield 45, 3) := by decide +kernel
theorem dX8_after_58 : decode cX8_after 58 = .ok (.aload_n 0, 1) := by decide +kernel
theorem dX8_after_59 : decode cX8_after 59 = .ok (.getfield 41, 3) := by decide +kernel
theorem dX8_after_62 : decode cX8_after 62 = .ok (.aload_n 0, 1) := by decide +kernel
theorem dX8_after_63 : decode cX8_after 63 = .ok (.getfield 35, 3) := by decide +kernel
theorem dX8_after_66 : decode cX8_after 66 = .ok (.getfield 157, 3) := by decide +kernel
theorem dX8_after_69 : decode cX8_after 69 = .ok (.invokevirtual 246, 3) := by decide +kernel
theorem dX8_after_72 : decode cX8_after 72 = .ok (.iconst 0, 1) := by decide +kernel
theorem dX8_after_73 : decode cX8_after 73 = .ok (.istore_n 3, 1) := by decide +kernel
theorem dX8_after_74 : decode cX8_after 74 = .ok (.iload_n 3, 1) := by decide +kernel
theorem dX8_after_75 : decode cX8_after 75 = .ok (.sipush 300, 3) := by decide +kernel
theorem dX8_after_78 : decode cX8_after 78 = .ok (.if_icmp .ge 47, 3) := by decide +kernel
theorem dX8_after_81 : decode cX8_after 81 = .ok (.aload_n 0, 1) := by decide +kernel
theorem dX8_after_82 : decode cX8_after 82 = .ok (.getfield 10, 3) := by decide +kernel
theorem dX8_after_85 : decode cX8_after 85 = .ok (.aload_n 0, 1) := by decide +kernel
theorem dX8_after_86 : decode cX8_after 86 = .ok (.getfield 45, 3) := by decide +kernel
theorem dX8_after_89 : decode cX8_after 89 = .ok (.aload_n 0, 1) := by decide +kernel
theorem dX8_after_90 : decode cX8_after 90 = .ok (.getfield 95, 3) := by decide +kernel
theorem dX8_after_93 : decode cX8_after 93 = .ok (.iload_n 3, 1) := by decide +kernel
theorem dX8_after_94 : decode cX8_after 94 = .ok (.iadd, 1) := by decide +kernel
theorem dX8_after_95 : decode cX8_after 95 = .ok (.invokevirtual 114, 3) := by decide +kernel
theorem dX8_after_98 : decode cX8_after 98 = .ok (.aload_n 0, 1) := by decide +kernel
theorem dX8_after_99 : decode cX8_after 99 = .ok (.getfield 45, 3) := by decide +kernel
theorem dX8_after_102 : decode cX8_after 102 = .ok (.iload_n 1, 1) := by decide +kernel
theorem dX8_after_103 : decode cX8_after 103 = .ok (.invokevirtual 240, 3) := by decide +kernel
theorem dX8_after_106 : decode cX8_after 106 = .ok (.ifCond .eq 13, 3) := by decide +kernel
theorem dX8_after_109 : decode cX8_after 109 = .ok (.aload_n 0, 1) := by decide +kernel
theorem dX8_after_110 : decode cX8_after 110 = .ok (.getfield 45, 3) := by decide +kernel
theorem dX8_after_113 : decode cX8_after 113 = .ok (.iload_n 1, 1) := by decide +kernel
theorem dX8_after_114 : decode cX8_after 114 = .ok (.iload_n 2, 1) := by decide +kernel
theorem dX8_after_115 : decode cX8_after 115 = .ok (.invokestatic 243, 3) := by decide +kernel
theorem dX8_after_118 : decode cX8_after 118 = .ok (.ireturn, 1) := by decide +kernel
theorem dX8_after_119 : decode cX8_after 119 = .ok (.iinc 3 1, 3) := by decide +kernel
theorem dX8_after_122 : decode cX8_after 122 = .ok (.goto (-48), 3) := by decide +kernel
theorem dX8_after_125 : decode cX8_after 125 = .ok (.bipush (-9), 2) := by decide +kernel
theorem dX8_after_127 : decode cX8_after 127 = .ok (.ireturn, 1) := by decide +kernel
theorem dX8_paid_0 : decode cX8_paid 0 = .ok (.aload_n 0, 1) := by decide +kernel
theorem dX8_paid_1 : decode cX8_paid 1 = .ok (.getfield 25, 3) := by decide +kernel
theorem dX8_paid_4 : decode cX8_paid 4 = .ok (.iload_n 1, 1) := by decide +kernel
theorem dX8_paid_5 : decode cX8_paid 5 = .ok (.invokevirtual 139, 3) := by decide +kernel
theorem dX8_paid_8 : decode cX8_paid 8 = .ok (.ifCond .ne 9, 3) := by decide +kernel
theorem dX8_paid_11 : decode cX8_paid 11 = .ok (.aload_n 0, 1) := by decide +kernel
theorem dX8_paid_12 : decode cX8_paid 12 = .ok (.iconst (-1), 1) := by decide +kernel
theorem dX8_paid_13 : decode cX8_paid 13 = .ok (.invokevirtual 59, 3) := by decide +kernel
theorem dX8_paid_16 : decode cX8_paid 16 = .ok (.ireturn, 1) := by decide +kernel
theorem dX8_paid_17 : decode cX8_paid 17 = .ok (.iconst 0, 1) := by decide +kernel
theorem dX8_paid_18 : decode cX8_paid 18 = .ok (.istore_n 2, 1) := by decide +kernel
theorem dX8_paid_19 : decode cX8_paid 19 = .ok (.iconst 0, 1) := by decide +kernel
theorem dX8_paid_20 : decode cX8_paid 20 = .ok (.istore_n 3, 1) := by decide +kernel
theorem dX8_paid_21 : decode cX8_paid 21 = .ok (.iload_n 3, 1) := by decide +kernel
theorem dX8_paid_22 : decode cX8_paid 22 = .ok (.aload_n 0, 1) := by decide +kernel
theorem dX8_paid_23 : decode cX8_paid 23 = .ok (.getfield 35, 3) := by decide +kernel
theorem dX8_paid_26 : decode cX8_paid 26 = .ok (.getfield 157, 3) := by decide +kernel
theorem dX8_paid_29 : decode cX8_paid 29 = .ok (.if_icmp .ge 60, 3) := by decide +kernel
theorem dX8_paid_32 : decode cX8_paid 32 = .ok (.aload_n 0, 1) := by decide +kernel
theorem dX8_paid_33 : decode cX8_paid 33 = .ok (.getfield 35, 3) := by decide +kernel
theorem dX8_paid_36 : decode cX8_paid 36 = .ok (.getfield 249, 3) := by decide +kernel
theorem dX8_paid_39 : decode cX8_paid 39 = .ok (.iload_n 3, 1) := by decide +kernel
theorem dX8_paid_40 : decode cX8_paid 40 = .ok (.iaload, 1) := by decide +kernel
theorem dX8_paid_41 : decode cX8_paid 41 = .ok (.iload_n 1, 1) := by decide +kernel
theorem dX8_paid_42 : decode cX8_paid 42 = .ok (.if_icmp .ne 41, 3) := by decide +kernel
theorem dX8_paid_45 : decode cX8_paid 45 = .ok (.aload_n 0, 1) := by decide +kernel
theorem dX8_paid_46 : decode cX8_paid 46 = .ok (.getfield 35, 3) := by decide +kernel
theorem dX8_paid_49 : decode cX8_paid 49 = .ok (.getfield 205, 3) := by decide +kernel
theorem dX8_paid_52 : decode cX8_paid 52 = .ok (.iload_n 3, 1) := by decide +kernel
theorem dX8_paid_53 : decode cX8_paid 53 = .ok (.iaload, 1) := by decide +kernel
theorem dX8_paid_54 : decode cX8_paid 54 = .ok (.iconst 2, 1) := by decide +kernel
theorem dX8_paid_55 : decode cX8_paid 55 = .ok (.if_icmp .ne 28, 3) := by decide +kernel
theorem dX8_paid_58 : decode cX8_paid 58 = .ok (.aload_n 0, 1) := by decide +kernel
theorem dX8_paid_59 : decode cX8_paid 59 = .ok (.getfield 41, 3) := by decide +kernel
theorem dX8_paid_62 : decode cX8_paid 62 = .ok (.getfield 208, 3) := by decide +kernel
theorem dX8_paid_65 : decode cX8_paid 65 = .ok (.iload_n 3, 1) := by decide +kernel
theorem dX8_paid_66 : decode cX8_paid 66 = .ok (.iaload, 1) := by decide +kernel
theorem dX8_paid_67 : decode cX8_paid 67 = .ok (.iconst 2, 1) := by decide +kernel
theorem dX8_paid_68 : decode cX8_paid 68 = .ok (.if_icmp .ne 15, 3) := by decide +kernel
theorem dX8_paid_71 : decode cX8_paid 71 = .ok (.iload_n 2, 1) := by decide +kernel
theorem dX8_paid_72 : decode cX8_paid 72 = .ok (.aload_n 0, 1) := by decide +kernel
theorem dX8_paid_73 : decode cX8_paid 73 = .ok (.getfield 35, 3) := by decide +kernel
theorem dX8_paid_76 : decode cX8_paid 76 = .ok (.getfield 252, 3) := by decide +kernel
theorem dX8_paid_79 : decode cX8_paid 79 = .ok (.iload_n 3, 1) := by decide +kernel
theorem dX8_paid_80 : decode cX8_paid 80 = .ok (.iaload, 1) := by decide +kernel
theorem dX8_paid_81 : decode cX8_paid 81 = .ok (.iadd, 1) := by decide +kernel
theorem dX8_paid_82 : decode cX8_paid 82 = .ok (.istore_n 2, 1) := by decide +kernel
theorem dX8_paid_83 : decode cX8_paid 83 = .ok (.iinc 3 1, 3) := by decide +kernel
theorem dX8_paid_86 : decode cX8_paid 86 = .ok (.goto (-65), 3) := by decide +kernel
theorem dX8_paid_89 : decode cX8_paid 89 = .ok (.iload_n 2, 1) := by decide +kernel
theorem dX8_paid_90 : decode cX8_paid 90 = .ok (.ireturn, 1) := by decide +kernel
theorem dX8_cover_0 : decode cX8_cover 0 = .ok (.iload_n 1, 1) := by decide +kernel
theorem dX8_cover_1 : decode cX8_cover 1 = .ok (.iload_n 2, 1) := by decide +kernel
theorem dX8_cover_2 : decode cX8_cover 2 = .ok (.invokestatic 255, 3) := by decide +kernel
theorem dX8_cover_5 : decode cX8_cover 5 = .ok (.istore_n 3, 1) := by decide +kernel
theorem dX8_cover_6 : decode cX8_cover 6 = .ok (.iload_n 3, 1) := by decide +kernel
theorem dX8_cover_7 : decode cX8_cover 7 = .ok (.ifCond .ge 11, 3) := by decide +kernel
theorem dX8_cover_10 : decode cX8_cover 10 = .ok (.aload_n 0, 1) := by decide +kernel
theorem dX8_cover_11 : decode cX8_cover 11 = .ok (.iload_n 3, 1) := by decide +kernel
theorem dX8_cover_12 : decode cX8_cover 12 = .ok (.invokevirtual 59, 3) := by decide +kernel
theorem dX8_cover_15 : decode cX8_cover 15 = .ok (.goto 12, 3) := by decide +kernel
theorem dX8_cover_18 : decode cX8_cover 18 = .ok (.aload_n 0, 1) := by decide +kernel
theorem dX8_cover_19 : decode cX8_cover 19 = .ok (.getfield 25, 3) := by decide +kernel
theorem dX8_cover_22 : decode cX8_cover 22 = .ok (.iload_n 1, 1) := by decide +kernel
theorem dX8_cover_23 : decode cX8_cover 23 = .ok (.iload_n 2, 1) := by decide +kernel
theorem dX8_cover_24 : decode cX8_cover 24 = .ok (.invokevirtual 258, 3) := by decide +kernel
theorem dX8_cover_27 : decode cX8_cover 27 = .ok (.ireturn, 1) := by decide +kernel
theorem dX8_sure_0 : decode cX8_sure 0 = .ok (.iload_n 1, 1) := by decide +kernel
theorem dX8_sure_1 : decode cX8_sure 1 = .ok (.iload_n 2, 1) := by decide +kernel
theorem dX8_sure_2 : decode cX8_sure 2 = .ok (.invokestatic 255, 3) := by decide +kernel
theorem dX8_sure_5 : decode cX8_sure 5 = .ok (.istore_n 3, 1) := by decide +kernel
theorem dX8_sure_6 : decode cX8_sure 6 = .ok (.iload_n 3, 1) := by decide +kernel
theorem dX8_sure_7 : decode cX8_sure 7 = .ok (.ifCond .ge 9, 3) := by decide +kernel
theorem dX8_sure_10 : decode cX8_sure 10 = .ok (.aload_n 0, 1) := by decide +kernel
theorem dX8_sure_11 : decode cX8_sure 11 = .ok (.iload_n 3, 1) := by decide +kernel
theorem dX8_sure_12 : decode cX8_sure 12 = .ok (.invokevirtual 59, 3) := by decide +kernel
theorem dX8_sure_15 : decode cX8_sure 15 = .ok (.ireturn, 1) := by decide +kernel
theorem dX8_sure_16 : decode cX8_sure 16 = .ok (.aload_n 0, 1) := by decide +kernel
theorem dX8_sure_17 : decode cX8_sure 17 = .ok (.getfield 25, 3) := by decide +kernel
theorem dX8_sure_20 : decode cX8_sure 20 = .ok (.iload_n 1, 1) := by decide +kernel
theorem dX8_sure_21 : decode cX8_sure 21 = .ok (.iload_n 2, 1) := by decide +kernel
theorem dX8_sure_22 : decode cX8_sure 22 = .ok (.invokevirtual 258, 3) := by decide +kernel
theorem dX8_sure_25 : decode cX8_sure 25 = .ok (.iconst 1, 1) := by decide +kernel
theorem dX8_sure_26 : decode cX8_sure 26 = .ok (.if_icmp .ne 15, 3) := by decide +kernel
theorem dX8_sure_29 : decode cX8_sure 29 = .ok (.aload_n 0, 1) := by decide +kernel
theorem dX8_sure_30 : decode cX8_sure 30 = .ok (.getfield 25, 3) := by decide +kernel
theorem dX8_sure_33 : decode cX8_sure 33 = .ok (.iload_n 1, 1) := by decide +kernel
theorem dX8_sure_34 : decode cX8_sure 34 = .ok (.iload_n 2, 1) := by decide +kernel
theorem dX8_sure_35 : decode cX8_sure 35 = .ok (.invokevirtual 261, 3) := by decide +kernel
theorem dX8_sure_38 : decode cX8_sure 38 = .ok (.goto 5, 3) := by decide +kernel
theorem dX8_sure_41 : decode cX8_sure 41 = .ok (.bipush (-9), 2) := by decide +kernel
theorem dX8_sure_43 : decode cX8_sure 43 = .ok (.ireturn, 1) := by decide +kernel
theorem dX8_sack_0 : decode cX8_sack 0 = .ok (.iload_n 1, 1) := by decide +kernel
theorem dX8_sack_1 : decode cX8_sack 1 = .ok (.iconst 1, 1) := by decide +kernel
theorem dX8_sack_2 : decode cX8_sack 2 = .ok (.if_icmp .lt 12, 3) := by decide +kernel
theorem dX8_sack_5 : decode cX8_sack 5 = .ok (.iload_n 2, 1) := by decide +kernel
theorem dX8_sack_6 : decode cX8_sack 6 = .ok (.iconst 1, 1) := by decide +kernel
theorem dX8_sack_7 : decode cX8_sack 7 = .ok (.if_icmp .lt 7, 3) := by decide +kernel
theorem dX8_sack_10 : decode cX8_sack 10 = .ok (.iload_n 3, 1) := by decide +kernel
theorem dX8_sack_11 : decode cX8_sack 11 = .ok (.ifCond .ge 10, 3) := by decide +kernel
theorem dX8_sack_14 : decode cX8_sack 14 = .ok (.aload_n 0, 1) := by decide +kernel
theorem dX8_sack_15 : decode cX8_sack 15 = .ok (.bipush (-4), 2) := by decide +kernel
theorem dX8_sack_17 : decode cX8_sack 17 = .ok (.invokevirtual 59, 3) := by decide +kernel
theorem dX8_sack_20 : decode cX8_sack 20 = .ok (.ireturn, 1) := by decide +kernel
theorem dX8_sack_21 : decode cX8_sack 21 = .ok (.iload_n 1, 1) := by decide +kernel
theorem dX8_sack_22 : decode cX8_sack 22 = .ok (.bipush 99, 2) := by decide +kernel
theorem dX8_sack_24 : decode cX8_sack 24 = .ok (.if_icmp .gt 29, 3) := by decide +kernel
theorem dX8_sack_27 : decode cX8_sack 27 = .ok (.iload_n 2, 1) := by decide +kernel
theorem dX8_sack_28 : decode cX8_sack 28 = .ok (.sipush 999, 3) := by decide +kernel
theorem dX8_sack_31 : decode cX8_sack 31 = .ok (.if_icmp .gt 22, 3) := by decide +kernel
theorem dX8_sack_34 : decode cX8_sack 34 = .ok (.iload_n 3, 1) := by decide +kernel
theorem dX8_sack_35 : decode cX8_sack 35 = .ok (.sipush 9999, 3) := by decide +kernel
theorem dX8_sack_38 : decode cX8_sack 38 = .ok (.if_icmp .gt 15, 3) := by decide +kernel
theorem dX8_sack_41 : decode cX8_sack 41 = .ok (.aload_n 0, 1) := by decide +kernel
theorem dX8_sack_42 : decode cX8_sack 42 = .ok (.getfield 51, 3) := by decide +kernel
theorem dX8_sack_45 : decode cX8_sack 45 = .ok (.getfield 264, 3) := by decide +kernel
theorem dX8_sack_48 : decode cX8_sack 48 = .ok (.bipush 7, 2) := by decide +kernel
theorem dX8_sack_50 : decode cX8_sack 50 = .ok (.if_icmp .lt 10, 3) := by decide +kernel
theorem dX8_sack_53 : decode cX8_sack 53 = .ok (.aload_n 0, 1) := by decide +kernel
theorem dX8_sack_54 : decode cX8_sack 54 = .ok (.bipush (-6), 2) := by decide +kernel
theorem dX8_sack_56 : decode cX8_sack 56 = .ok (.invokevirtual 59, 3) := by decide +kernel
theorem dX8_sack_59 : decode cX8_sack 59 = .ok (.ireturn, 1) := by decide +kernel
theorem dX8_sack_60 : decode cX8_sack 60 = .ok (.aload_n 0, 1) := by decide +kernel
theorem dX8_sack_61 : decode cX8_sack 61 = .ok (.getfield 51, 3) := by decide +kernel
theorem dX8_sack_64 : decode cX8_sack 64 = .ok (.iload_n 1, 1) := by decide +kernel
theorem dX8_sack_65 : decode cX8_sack 65 = .ok (.iload_n 2, 1) := by decide +kernel
theorem dX8_sack_66 : decode cX8_sack 66 = .ok (.iload_n 3, 1) := by decide +kernel
theorem dX8_sack_67 : decode cX8_sack 67 = .ok (.invokevirtual 267, 3) := by decide +kernel
theorem dX8_sack_70 : decode cX8_sack 70 = .ok (.ireturn, 1) := by decide +kernel
theorem dX8_best_0 : decode cX8_best 0 = .ok (.iload_n 1, 1) := by decide +kernel
theorem dX8_best_1 : decode cX8_best 1 = .ok (.ifCond .lt 8, 3) := by decide +kernel
theorem dX8_best_4 : decode cX8_best 4 = .ok (.iload_n 1, 1) := by decide +kernel
theorem dX8_best_5 : decode cX8_best 5 = .ok (.iconst 2, 1) := by decide +kernel
theorem dX8_best_6 : decode cX8_best 6 = .ok (.if_icmp .le 10, 3) := by decide +kernel
theorem dX8_best_9 : decode cX8_best 9 = .ok (.aload_n 0, 1) := by decide +kernel
theorem dX8_best_10 : decode cX8_best 10 = .ok (.bipush (-2), 2) := by decide +kernel
theorem dX8_best_12 : decode cX8_best 12 = .ok (.invokevirtual 59, 3) := by decide +kernel
theorem dX8_best_15 : decode cX8_best 15 = .ok (.ireturn, 1) := by decide +kernel
theorem dX8_best_16 : decode cX8_best 16 = .ok (.aload_n 0, 1) := by decide +kernel
theorem dX8_best_17 : decode cX8_best 17 = .ok (.getfield 51, 3) := by decide +kernel
theorem dX8_best_20 : decode cX8_best 20 = .ok (.invokevirtual 270, 3) := by decide +kernel
theorem dX8_best_23 : decode cX8_best 23 = .ok (.istore_n 2, 1) := by decide +kernel
theorem dX8_best_24 : decode cX8_best 24 = .ok (.iload_n 1, 1) := by decide +kernel
theorem dX8_best_25 : decode cX8_best 25 = .ok (.ifCond .ne 5, 3) := by decide +kernel
theorem dX8_best_28 : decode cX8_best 28 = .ok (.iload_n 2, 1) := by decide +kernel
theorem dX8_best_29 : decode cX8_best 29 = .ok (.ireturn, 1) := by decide +kernel
theorem dX8_best_30 : decode cX8_best 30 = .ok (.iload_n 1, 1) := by decide +kernel
theorem dX8_best_31 : decode cX8_best 31 = .ok (.iconst 1, 1) := by decide +kernel
theorem dX8_best_32 : decode cX8_best 32 = .ok (.if_icmp .ne 14, 3) := by decide +kernel
theorem dX8_best_35 : decode cX8_best 35 = .ok (.aload_n 0, 1) := by decide +kernel
theorem dX8_best_36 : decode cX8_best 36 = .ok (.getfield 51, 3) := by decide +kernel
theorem dX8_best_39 : decode cX8_best 39 = .ok (.iload_n 2, 1) := by decide +kernel
theorem dX8_best_40 : decode cX8_best 40 = .ok (.invokevirtual 274, 3) := by decide +kernel
theorem dX8_best_43 : decode cX8_best 43 = .ok (.goto 11, 3) := by decide +kernel
theorem dX8_best_46 : decode cX8_best 46 = .ok (.aload_n 0, 1) := by decide +kernel
theorem dX8_best_47 : decode cX8_best 47 = .ok (.getfield 51, 3) := by decide +kernel
theorem dX8_best_50 : decode cX8_best 50 = .ok (.iload_n 2, 1) := by decide +kernel
theorem dX8_best_51 : decode cX8_best 51 = .ok (.invokevirtual 277, 3) := by decide +kernel
theorem dX8_best_54 : decode cX8_best 54 = .ok (.ireturn, 1) := by decide +kernel
theorem dX8_put_0 : decode cX8_put 0 = .ok (.iload_n 1, 1) := by decide +kernel
theorem dX8_put_1 : decode cX8_put 1 = .ok (.bipush (-128), 2) := by decide +kernel
theorem dX8_put_3 : decode cX8_put 3 = .ok (.if_icmp .ge 10, 3) := by decide +kernel
theorem dX8_put_6 : decode cX8_put 6 = .ok (.aload_n 0, 1) := by decide +kernel
theorem dX8_put_7 : decode cX8_put 7 = .ok (.bipush (-4), 2) := by decide +kernel
theorem dX8_put_9 : decode cX8_put 9 = .ok (.invokevirtual 59, 3) := by decide +kernel
theorem dX8_put_12 : decode cX8_put 12 = .ok (.ireturn, 1) := by decide +kernel
theorem dX8_put_13 : decode cX8_put 13 = .ok (.iload_n 1, 1) := by decide +kernel
theorem dX8_put_14 : decode cX8_put 14 = .ok (.bipush 127, 2) := by decide +kernel
theorem dX8_put_16 : decode cX8_put 16 = .ok (.if_icmp .gt 15, 3) := by decide +kernel
theorem dX8_put_19 : decode cX8_put 19 = .ok (.aload_n 0, 1) := by decide +kernel
theorem dX8_put_20 : decode cX8_put 20 = .ok (.getfield 51, 3) := by decide +kernel
theorem dX8_put_23 : decode cX8_put 23 = .ok (.getfield 280, 3) := by decide +kernel
theorem dX8_put_26 : decode cX8_put 26 = .ok (.bipush 12, 2) := by decide +kernel
theorem dX8_put_28 : decode cX8_put 28 = .ok (.if_icmp .lt 10, 3) := by decide +kernel
theorem dX8_put_31 : decode cX8_put 31 = .ok (.aload_n 0, 1) := by decide +kernel
theorem dX8_put_32 : decode cX8_put 32 = .ok (.bipush (-6), 2) := by decide +kernel
theorem dX8_put_34 : decode cX8_put 34 = .ok (.invokevirtual 59, 3) := by decide +kernel
theorem dX8_put_37 : decode cX8_put 37 = .ok (.ireturn, 1) := by decide +kernel
theorem dX8_put_38 : decode cX8_put 38 = .ok (.aload_n 0, 1) := by decide +kernel
theorem dX8_put_39 : decode cX8_put 39 = .ok (.getfield 51, 3) := by decide +kernel
theorem dX8_put_42 : decode cX8_put 42 = .ok (.iload_n 1, 1) := by decide +kernel
theorem dX8_put_43 : decode cX8_put 43 = .ok (.invokevirtual 283, 3) := by decide +kernel
theorem dX8_put_46 : decode cX8_put 46 = .ok (.ireturn, 1) := by decide +kernel
theorem dX8_judge_0 : decode cX8_judge 0 = .ok (.iload_n 1, 1) := by decide +kernel
theorem dX8_judge_1 : decode cX8_judge 1 = .ok (.ifCond .eq 15, 3) := by decide +kernel
theorem dX8_judge_4 : decode cX8_judge 4 = .ok (.iload_n 1, 1) := by decide +kernel
theorem dX8_judge_5 : decode cX8_judge 5 = .ok (.iconst 1, 1) := by decide +kernel
theorem dX8_judge_6 : decode cX8_judge 6 = .ok (.if_icmp .eq 10, 3) := by decide +kernel
theorem dX8_judge_9 : decode cX8_judge 9 = .ok (.aload_n 0, 1) := by decide +kernel
theorem dX8_judge_10 : decode cX8_judge 10 = .ok (.bipush (-2), 2) := by decide +kernel
theorem dX8_judge_12 : decode cX8_judge 12 = .ok (.invokevirtual 59, 3) := by decide +kernel
theorem dX8_judge_15 : decode cX8_judge 15 = .ok (.ireturn, 1) := by decide +kernel
theorem dX8_judge_16 : decode cX8_judge 16 = .ok (.aload_n 0, 1) := by decide +kernel
theorem dX8_judge_17 : decode cX8_judge 17 = .ok (.getfield 51, 3) := by decide +kernel
theorem dX8_judge_20 : decode cX8_judge 20 = .ok (.invokevirtual 286, 3) := by decide +kernel
theorem dX8_judge_23 : decode cX8_judge 23 = .ok (.istore_n 2, 1) := by decide +kernel
theorem dX8_judge_24 : decode cX8_judge 24 = .ok (.iload_n 1, 1) := by decide +kernel
theorem dX8_judge_25 : decode cX8_judge 25 = .ok (.ifCond .ne 21, 3) := by decide +kernel
theorem dX8_judge_28 : decode cX8_judge 28 = .ok (.iload_n 2, 1) := by decide +kernel
theorem dX8_judge_29 : decode cX8_judge 29 = .ok (.aload_n 0, 1) := by decide +kernel
theorem dX8_judge_30 : decode cX8_judge 30 = .ok (.getfield 51, 3) := by decide +kernel
theorem dX8_judge_33 : decode cX8_judge 33 = .ok (.getfield 280, 3) := by decide +kernel
theorem dX8_judge_36 : decode cX8_judge 36 = .ok (.if_icmp .ge 7, 3) := by decide +kernel
theorem dX8_judge_39 : decode cX8_judge 39 = .ok (.iload_n 2, 1) := by decide +kernel
theorem dX8_judge_40 : decode cX8_judge 40 = .ok (.goto 5, 3) := by decide +kernel
theorem dX8_judge_43 : decode cX8_judge 43 = .ok (.bipush (-9), 2) := by decide +kernel
theorem dX8_judge_45 : decode cX8_judge 45 = .ok (.ireturn, 1) := by decide +kernel
theorem dX8_judge_46 : decode cX8_judge 46 = .ok (.aload_n 0, 1) := by decide +kernel
theorem dX8_judge_47 : decode cX8_judge 47 = .ok (.getfield 51, 3) := by decide +kernel
theorem dX8_judge_50 : decode cX8_judge 50 = .ok (.aload_n 0, 1) := by decide +kernel
theorem dX8_judge_51 : decode cX8_judge 51 = .ok (.getfield 51, 3) := by decide +kernel
theorem dX8_judge_54 : decode cX8_judge 54 = .ok (.invokevirtual 270, 3) := by decide +kernel
theorem dX8_judge_57 : decode cX8_judge 57 = .ok (.invokevirtual 274, 3) := by decide +kernel
theorem dX8_judge_60 : decode cX8_judge 60 = .ok (.aload_n 0, 1) := by decide +kernel
theorem dX8_judge_61 : decode cX8_judge 61 = .ok (.getfield 51, 3) := by decide +kernel
theorem dX8_judge_64 : decode cX8_judge 64 = .ok (.iload_n 2, 1) := by decide +kernel
theorem dX8_judge_65 : decode cX8_judge 65 = .ok (.invokevirtual 289, 3) := by decide +kernel
theorem dX8_judge_68 : decode cX8_judge 68 = .ok (.isub, 1) := by decide +kernel
theorem dX8_judge_69 : decode cX8_judge 69 = .ok (.istore_n 3, 1) := by decide +kernel
theorem dX8_judge_70 : decode cX8_judge 70 = .ok (.aload_n 0, 1) := by decide +kernel
theorem dX8_judge_71 : decode cX8_judge 71 = .ok (.getfield 51, 3) := by decide +kernel
theorem dX8_judge_74 : decode cX8_judge 74 = .ok (.iconst 0, 1) := by decide +kernel
theorem dX8_judge_75 : decode cX8_judge 75 = .ok (.putfield 280, 3) := by decide +kernel
theorem dX8_judge_78 : decode cX8_judge 78 = .ok (.iload_n 3, 1) := by decide +kernel
theorem dX8_judge_79 : decode cX8_judge 79 = .ok (.ireturn, 1) := by decide +kernel
theorem dX8_waiting_0 : decode cX8_waiting 0 = .ok (.aload_n 0, 1) := by decide +kernel
theorem dX8_waiting_1 : decode cX8_waiting 1 = .ok (.getfield 20, 3) := by decide +kernel
theorem dX8_waiting_4 : decode cX8_waiting 4 = .ok (.iload_n 1, 1) := by decide +kernel
theorem dX8_waiting_5 : decode cX8_waiting 5 = .ok (.invokevirtual 73, 3) := by decide +kernel
theorem dX8_waiting_8 : decode cX8_waiting 8 = .ok (.ifCond .ne 9, 3) := by decide +kernel
theorem dX8_waiting_11 : decode cX8_waiting 11 = .ok (.aload_n 0, 1) := by decide +kernel
theorem dX8_waiting_12 : decode cX8_waiting 12 = .ok (.iconst (-1), 1) := by decide +kernel
theorem dX8_waiting_13 : decode cX8_waiting 13 = .ok (.invokevirtual 59, 3) := by decide +kernel
theorem dX8_waiting_16 : decode cX8_waiting 16 = .ok (.ireturn, 1) := by decide +kernel
theorem dX8_waiting_17 : decode cX8_waiting 17 = .ok (.iconst 0, 1) := by decide +kernel
theorem dX8_waiting_18 : decode cX8_waiting 18 = .ok (.istore_n 2, 1) := by decide +kernel
theorem dX8_waiting_19 : decode cX8_waiting 19 = .ok (.iconst 0, 1) := by decide +kernel
theorem dX8_waiting_20 : decode cX8_waiting 20 = .ok (.istore_n 3, 1) := by decide +kernel
theorem dX8_waiting_21 : decode cX8_waiting 21 = .ok (.iload_n 3, 1) := by decide +kernel
theorem dX8_waiting_22 : decode cX8_waiting 22 = .ok (.aload_n 0, 1) := by decide +kernel
theorem dX8_waiting_23 : decode cX8_waiting 23 = .ok (.getfield 35, 3) := by decide +kernel
theorem dX8_waiting_26 : decode cX8_waiting 26 = .ok (.getfield 157, 3) := by decide +kernel
theorem dX8_waiting_29 : decode cX8_waiting 29 = .ok (.if_icmp .ge 37, 3) := by decide +kernel
theorem dX8_waiting_32 : decode cX8_waiting 32 = .ok (.aload_n 0, 1) := by decide +kernel
theorem dX8_waiting_33 : decode cX8_waiting 33 = .ok (.getfield 41, 3) := by decide +kernel
theorem dX8_waiting_36 : decode cX8_waiting 36 = .ok (.getfield 208, 3) := by decide +kernel
theorem dX8_waiting_39 : decode cX8_waiting 39 = .ok (.iload_n 3, 1) := by decide +kernel
theorem dX8_waiting_40 : decode cX8_waiting 40 = .ok (.iaload, 1) := by decide +kernel
theorem dX8_waiting_41 : decode cX8_waiting 41 = .ok (.ifCond .ne 19, 3) := by decide +kernel
theorem dX8_waiting_44 : decode cX8_waiting 44 = .ok (.aload_n 0, 1) := by decide +kernel
theorem dX8_waiting_45 : decode cX8_waiting 45 = .ok (.getfield 41, 3) := by decide +kernel
theorem dX8_waiting_48 : decode cX8_waiting 48 = .ok (.getfield 192, 3) := by decide +kernel
theorem dX8_waiting_51 : decode cX8_waiting 51 = .ok (.iload_n 3, 1) := by decide +kernel
theorem dX8_waiting_52 : decode cX8_waiting 52 = .ok (.iaload, 1) := by decide +kernel
theorem dX8_waiting_53 : decode cX8_waiting 53 = .ok (.iload_n 1, 1) := by decide +kernel
theorem dX8_waiting_54 : decode cX8_waiting 54 = .ok (.if_icmp .ne 6, 3) := by decide +kernel
theorem dX8_waiting_57 : decode cX8_waiting 57 = .ok (.iinc 2 1, 3) := by decide +kernel
theorem dX8_waiting_60 : decode cX8_waiting 60 = .ok (.iinc 3 1, 3) := by decide +kernel
theorem dX8_waiting_63 : decode cX8_waiting 63 = .ok (.goto (-42), 3) := by decide +kernel
theorem dX8_waiting_66 : decode cX8_waiting 66 = .ok (.iload_n 2, 1) := by decide +kernel
theorem dX8_waiting_67 : decode cX8_waiting 67 = .ok (.ireturn, 1) := by decide +kernel
theorem dX8_count_0 : decode cX8_count 0 = .ok (.iload_n 1, 1) := by decide +kernel
theorem dX8_count_1 : decode cX8_count 1 = .ok (.tableswitch 233 0 18 #[91, 96, 104, 112, 120, 128, 136, 152, 168, 184, 199, 207, 207, 207, 207, 207, 207, 217, 225], 91) := by decide +kernel
theorem dX8_count_92 : decode cX8_count 92 = .ok (.aload_n 0, 1) := by decide +kernel
theorem dX8_count_93 : decode cX8_count 93 = .ok (.getfield 95, 3) := by decide +kernel
theorem dX8_count_96 : decode cX8_count 96 = .ok (.ireturn, 1) := by decide +kernel
theorem dX8_count_97 : decode cX8_count 97 = .ok (.aload_n 0, 1) := by decide +kernel
theorem dX8_count_98 : decode cX8_count 98 = .ok (.getfield 20, 3) := by decide +kernel
theorem dX8_count_101 : decode cX8_count 101 = .ok (.getfield 63, 3) := by decide +kernel
theorem dX8_count_104 : decode cX8_count 104 = .ok (.ireturn, 1) := by decide +kernel
theorem dX8_count_105 : decode cX8_count 105 = .ok (.aload_n 0, 1) := by decide +kernel
theorem dX8_count_106 : decode cX8_count 106 = .ok (.getfield 20, 3) := by decide +kernel
theorem dX8_count_109 : decode cX8_count 109 = .ok (.getfield 85, 3) := by decide +kernel
theorem dX8_count_112 : decode cX8_count 112 = .ok (.ireturn, 1) := by decide +kernel
theorem dX8_count_113 : decode cX8_count 113 = .ok (.aload_n 0, 1) := by decide +kernel
theorem dX8_count_114 : decode cX8_count 114 = .ok (.getfield 25, 3) := by decide +kernel
theorem dX8_count_117 : decode cX8_count 117 = .ok (.getfield 121, 3) := by decide +kernel
theorem dX8_count_120 : decode cX8_count 120 = .ok (.ireturn, 1) := by decide +kernel
theorem dX8_count_121 : decode cX8_count 121 = .ok (.aload_n 0, 1) := by decide +kernel
theorem dX8_count_122 : decode cX8_count 122 = .ok (.getfield 25, 3) := by decide +kernel
theorem dX8_count_125 : decode cX8_count 125 = .ok (.getfield 133, 3) := by decide +kernel
theorem dX8_count_128 : decode cX8_count 128 = .ok (.ireturn, 1) := by decide +kernel
theorem dX8_count_129 : decode cX8_count 129 = .ok (.aload_n 0, 1) := by decide +kernel
theorem dX8_count_130 : decode cX8_count 130 = .ok (.getfield 35, 3) := by decide +kernel
theorem dX8_count_133 : decode cX8_count 133 = .ok (.getfield 157, 3) := by decide +kernel
theorem dX8_count_136 : decode cX8_count 136 = .ok (.ireturn, 1) := by decide +kernel
theorem dX8_count_137 : decode cX8_count 137 = .ok (.aload_n 0, 1) := by decide +kernel
theorem dX8_count_138 : decode cX8_count 138 = .ok (.getfield 41, 3) := by decide +kernel
theorem dX8_count_141 : decode cX8_count 141 = .ok (.iconst 2, 1) := by decide +kernel
theorem dX8_count_142 : decode cX8_count 142 = .ok (.aload_n 0, 1) := by decide +kernel
theorem dX8_count_143 : decode cX8_count 143 = .ok (.getfield 35, 3) := by decide +kernel
theorem dX8_count_146 : decode cX8_count 146 = .ok (.getfield 157, 3) := by decide +kernel
theorem dX8_count_149 : decode cX8_count 149 = .ok (.invokevirtual 292, 3) := by decide +kernel
theorem dX8_count_152 : decode cX8_count 152 = .ok (.ireturn, 1) := by decide +kernel
theorem dX8_count_153 : decode cX8_count 153 = .ok (.aload_n 0, 1) := by decide +kernel
theorem dX8_count_154 : decode cX8_count 154 = .ok (.getfield 41, 3) := by decide +kernel
theorem dX8_count_157 : decode cX8_count 157 = .ok (.iconst 3, 1) := by decide +kernel
theorem dX8_count_158 : decode cX8_count 158 = .ok (.aload_n 0, 1) := by decide +kernel
theorem dX8_count_159 : decode cX8_count 159 = .ok (.getfield 35, 3) := by decide +kernel
theorem dX8_count_162 : decode cX8_count 162 = .ok (.getfield 157, 3) := by decide +kernel
theorem dX8_count_165 : decode cX8_count 165 = .ok (.invokevirtual 292, 3) := by decide +kernel
theorem dX8_count_168 : decode cX8_count 168 = .ok (.ireturn, 1) := by decide +kernel
theorem dX8_count_169 : decode cX8_count 169 = .ok (.aload_n 0, 1) := by decide +kernel
theorem dX8_count_170 : decode cX8_count 170 = .ok (.getfield 41, 3) := by decide +kernel
theorem dX8_count_173 : decode cX8_count 173 = .ok (.iconst 4, 1) := by decide +kernel
theorem dX8_count_174 : decode cX8_count 174 = .ok (.aload_n 0, 1) := by decide +kernel
theorem dX8_count_175 : decode cX8_count 175 = .ok (.getfield 35, 3) := by decide +kernel
theorem dX8_count_178 : decode cX8_count 178 = .ok (.getfield 157, 3) := by decide +kernel
theorem dX8_count_181 : decode cX8_count 181 = .ok (.invokevirtual 292, 3) := by decide +kernel
theorem dX8_count_184 : decode cX8_count 184 = .ok (.ireturn, 1) := by decide +kernel
theorem dX8_count_185 : decode cX8_count 185 = .ok (.aload_n 0, 1) := by decide +kernel
theorem dX8_count_186 : decode cX8_count 186 = .ok (.getfield 41, 3) := by decide +kernel
theorem dX8_count_189 : decode cX8_count 189 = .ok (.aload_n 0, 1) := by decide +kernel
theorem dX8_count_190 : decode cX8_count 190 = .ok (.getfield 35, 3) := by decide +kernel
theorem dX8_count_193 : decode cX8_count 193 = .ok (.getfield 157, 3) := by decide +kernel
theorem dX8_count_196 : decode cX8_count 196 = .ok (.invokevirtual 295, 3) := by decide +kernel
theorem dX8_count_199 : decode cX8_count 199 = .ok (.ireturn, 1) := by decide +kernel
theorem dX8_count_200 : decode cX8_count 200 = .ok (.aload_n 0, 1) := by decide +kernel
theorem dX8_count_201 : decode cX8_count 201 = .ok (.getfield 30, 3) := by decide +kernel
theorem dX8_count_204 : decode cX8_count 204 = .ok (.getfield 169, 3) := by decide +kernel
theorem dX8_count_207 : decode cX8_count 207 = .ok (.ireturn, 1) := by decide +kernel
theorem dX8_count_208 : decode cX8_count 208 = .ok (.aload_n 0, 1) := by decide +kernel
theorem dX8_count_209 : decode cX8_count 209 = .ok (.getfield 55, 3) := by decide +kernel
theorem dX8_count_212 : decode cX8_count 212 = .ok (.iload_n 1, 1) := by decide +kernel
theorem dX8_count_213 : decode cX8_count 213 = .ok (.bipush 10, 2) := by decide +kernel
theorem dX8_count_215 : decode cX8_count 215 = .ok (.isub, 1) := by decide +kernel
theorem dX8_count_216 : decode cX8_count 216 = .ok (.iaload, 1) := by decide +kernel
theorem dX8_count_217 : decode cX8_count 217 = .ok (.ireturn, 1) := by decide +kernel
theorem dX8_count_218 : decode cX8_count 218 = .ok (.aload_n 0, 1) := by decide +kernel
theorem dX8_count_219 : decode cX8_count 219 = .ok (.getfield 51, 3) := by decide +kernel
theorem dX8_count_222 : decode cX8_count 222 = .ok (.getfield 280, 3) := by decide +kernel
theorem dX8_count_225 : decode cX8_count 225 = .ok (.ireturn, 1) := by decide +kernel
theorem dX8_count_226 : decode cX8_count 226 = .ok (.aload_n 0, 1) := by decide +kernel
theorem dX8_count_227 : decode cX8_count 227 = .ok (.getfield 30, 3) := by decide +kernel
theorem dX8_count_230 : decode cX8_count 230 = .ok (.getfield 181, 3) := by decide +kernel
theorem dX8_count_233 : decode cX8_count 233 = .ok (.ireturn, 1) := by decide +kernel
theorem dX8_count_234 : decode cX8_count 234 = .ok (.bipush (-9), 2) := by decide +kernel
theorem dX8_count_236 : decode cX8_count 236 = .ok (.ireturn, 1) := by decide +kernel
theorem dX8_refuse_0 : decode cX8_refuse 0 = .ok (.iload_n 1, 1) := by decide +kernel
theorem dX8_refuse_1 : decode cX8_refuse 1 = .ok (.ineg, 1) := by decide +kernel
theorem dX8_refuse_2 : decode cX8_refuse 2 = .ok (.istore_n 2, 1) := by decide +kernel
theorem dX8_refuse_3 : decode cX8_refuse 3 = .ok (.iload_n 2, 1) := by decide +kernel
theorem dX8_refuse_4 : decode cX8_refuse 4 = .ok (.ifCond .lt 22, 3) := by decide +kernel
theorem dX8_refuse_7 : decode cX8_refuse 7 = .ok (.iload_n 2, 1) := by decide +kernel
theorem dX8_refuse_8 : decode cX8_refuse 8 = .ok (.aload_n 0, 1) := by decide +kernel
theorem dX8_refuse_9 : decode cX8_refuse 9 = .ok (.getfield 55, 3) := by decide +kernel
theorem dX8_refuse_12 : decode cX8_refuse 12 = .ok (.arraylength, 1) := by decide +kernel
theorem dX8_refuse_13 : decode cX8_refuse 13 = .ok (.if_icmp .ge 13, 3) := by decide +kernel
theorem dX8_refuse_16 : decode cX8_refuse 16 = .ok (.aload_n 0, 1) := by decide +kernel
theorem dX8_refuse_17 : decode cX8_refuse 17 = .ok (.getfield 55, 3) := by decide +kernel
theorem dX8_refuse_20 : decode cX8_refuse 20 = .ok (.iload_n 2, 1) := by decide +kernel
theorem dX8_refuse_21 : decode cX8_refuse 21 = .ok (.dup2, 1) := by decide +kernel
theorem dX8_refuse_22 : decode cX8_refuse 22 = .ok (.iaload, 1) := by decide +kernel
theorem dX8_refuse_23 : decode cX8_refuse 23 = .ok (.iconst 1, 1) := by decide +kernel
theorem dX8_refuse_24 : decode cX8_refuse 24 = .ok (.iadd, 1) := by decide +kernel
theorem dX8_refuse_25 : decode cX8_refuse 25 = .ok (.iastore, 1) := by decide +kernel
theorem dX8_refuse_26 : decode cX8_refuse 26 = .ok (.iload_n 1, 1) := by decide +kernel
theorem dX8_refuse_27 : decode cX8_refuse 27 = .ok (.ireturn, 1) := by decide +kernel
theorem dX8_isUnit_0 : decode cX8_isUnit 0 = .ok (.iload_n 0, 1) := by decide +kernel
theorem dX8_isUnit_1 : decode cX8_isUnit 1 = .ok (.ifCond .lt 13, 3) := by decide +kernel
theorem dX8_isUnit_4 : decode cX8_isUnit 4 = .ok (.iload_n 0, 1) := by decide +kernel
theorem dX8_isUnit_5 : decode cX8_isUnit 5 = .ok (.bipush 16, 2) := by decide +kernel
theorem dX8_isUnit_7 : decode cX8_isUnit 7 = .ok (.if_icmp .ge 7, 3) := by decide +kernel
theorem dX8_isUnit_10 : decode cX8_isUnit 10 = .ok (.iconst 1, 1) := by decide +kernel
theorem dX8_isUnit_11 : decode cX8_isUnit 11 = .ok (.goto 4, 3) := by decide +kernel
theorem dX8_isUnit_14 : decode cX8_isUnit 14 = .ok (.iconst 0, 1) := by decide +kernel
theorem dX8_isUnit_15 : decode cX8_isUnit 15 = .ok (.ireturn, 1) := by decide +kernel
theorem dX8_isPurpose_0 : decode cX8_isPurpose 0 = .ok (.iload_n 0, 1) := by decide +kernel
theorem dX8_isPurpose_1 : decode cX8_isPurpose 1 = .ok (.ifCond .lt 12, 3) := by decide +kernel
theorem dX8_isPurpose_4 : decode cX8_isPurpose 4 = .ok (.iload_n 0, 1) := by decide +kernel
theorem dX8_isPurpose_5 : decode cX8_isPurpose 5 = .ok (.iconst 2, 1) := by decide +kernel
theorem dX8_isPurpose_6 : decode cX8_isPurpose 6 = .ok (.if_icmp .gt 7, 3) := by decide +kernel
theorem dX8_isPurpose_9 : decode cX8_isPurpose 9 = .ok (.iconst 1, 1) := by decide +kernel
theorem dX8_isPurpose_10 : decode cX8_isPurpose 10 = .ok (.goto 4, 3) := by decide +kernel
theorem dX8_isPurpose_13 : decode cX8_isPurpose 13 = .ok (.iconst 0, 1) := by decide +kernel
theorem dX8_isPurpose_14 : decode cX8_isPurpose 14 = .ok (.ireturn, 1) := by decide +kernel
theorem dX8_reachedOrNone_0 : decode cX8_reachedOrNone 0 = .ok (.iload_n 0, 1) := by decide +kernel
theorem dX8_reachedOrNone_1 : decode cX8_reachedOrNone 1 = .ok (.ldc_w 298, 3) := by decide +kernel
theorem dX8_reachedOrNone_4 : decode cX8_reachedOrNone 4 = .ok (.if_icmp .ge 7, 3) := by decide +kernel
theorem dX8_reachedOrNone_7 : decode cX8_reachedOrNone 7 = .ok (.iload_n 0, 1) := by decide +kernel
theorem dX8_reachedOrNone_8 : decode cX8_reachedOrNone 8 = .ok (.goto 5, 3) := by decide +kernel
theorem dX8_reachedOrNone_11 : decode cX8_reachedOrNone 11 = .ok (.bipush (-9), 2) := by decide +kernel
theorem dX8_reachedOrNone_13 : decode cX8_reachedOrNone 13 = .ok (.ireturn, 1) := by decide +kernel
theorem dX8_mostWeight_0 : decode cX8_mostWeight 0 = .ok (.iload_n 0, 1) := by decide +kernel
theorem dX8_mostWeight_1 : decode cX8_mostWeight 1 = .ok (.iconst 2, 1) := by decide +kernel
theorem dX8_mostWeight_2 : decode cX8_mostWeight 2 = .ok (.if_icmp .ne 7, 3) := by decide +kernel
theorem dX8_mostWeight_5 : decode cX8_mostWeight 5 = .ok (.sipush 9999, 3) := by decide +kernel
theorem dX8_mostWeight_8 : decode cX8_mostWeight 8 = .ok (.ireturn, 1) := by decide +kernel
theorem dX8_mostWeight_9 : decode cX8_mostWeight 9 = .ok (.iload_n 0, 1) := by decide +kernel
theorem dX8_mostWeight_10 : decode cX8_mostWeight 10 = .ok (.iconst 1, 1) := by decide +kernel
theorem dX8_mostWeight_11 : decode cX8_mostWeight 11 = .ok (.if_icmp .ne 9, 3) := by decide +kernel
theorem dX8_mostWeight_14 : decode cX8_mostWeight 14 = .ok (.sipush 999, 3) := by decide +kernel
theorem dX8_mostWeight_17 : decode cX8_mostWeight 17 = .ok (.goto 5, 3) := by decide +kernel
theorem dX8_mostWeight_20 : decode cX8_mostWeight 20 = .ok (.bipush 99, 2) := by decide +kernel
theorem dX8_mostWeight_22 : decode cX8_mostWeight 22 = .ok (.ireturn, 1) := by decide +kernel
theorem dX8_endOf_0 : decode cX8_endOf 0 = .ok (.iload_n 2, 1) := by decide +kernel
theorem dX8_endOf_1 : decode cX8_endOf 1 = .ok (.ifCond .ne 12, 3) := by decide +kernel
theorem dX8_endOf_4 : decode cX8_endOf 4 = .ok (.aload_n 0, 1) := by decide +kernel
theorem dX8_endOf_5 : decode cX8_endOf 5 = .ok (.getfield 211, 3) := by decide +kernel
theorem dX8_endOf_8 : decode cX8_endOf 8 = .ok (.iload_n 1, 1) := by decide +kernel
theorem dX8_endOf_9 : decode cX8_endOf 9 = .ok (.iaload, 1) := by decide +kernel
theorem dX8_endOf_10 : decode cX8_endOf 10 = .ok (.goto 9, 3) := by decide +kernel
theorem dX8_endOf_13 : decode cX8_endOf 13 = .ok (.aload_n 0, 1) := by decide +kernel
theorem dX8_endOf_14 : decode cX8_endOf 14 = .ok (.getfield 208, 3) := by decide +kernel
theorem dX8_endOf_17 : decode cX8_endOf 17 = .ok (.iload_n 1, 1) := by decide +kernel
theorem dX8_endOf_18 : decode cX8_endOf 18 = .ok (.iaload, 1) := by decide +kernel
theorem dX8_endOf_19 : decode cX8_endOf 19 = .ok (.ireturn, 1) := by decide +kernel
theorem dX8_outside_0 : decode cX8_outside 0 = .ok (.iload_n 0, 1) := by decide +kernel
theorem dX8_outside_1 : decode cX8_outside 1 = .ok (.iload_n 1, 1) := by decide +kernel
theorem dX8_outside_2 : decode cX8_outside 2 = .ok (.if_icmp .ge 6, 3) := by decide +kernel
theorem dX8_outside_5 : decode cX8_outside 5 = .ok (.bipush (-4), 2) := by decide +kernel
theorem dX8_outside_7 : decode cX8_outside 7 = .ok (.ireturn, 1) := by decide +kernel
theorem dX8_outside_8 : decode cX8_outside 8 = .ok (.iload_n 0, 1) := by decide +kernel
theorem dX8_outside_9 : decode cX8_outside 9 = .ok (.iload_n 2, 1) := by decide +kernel
theorem dX8_outside_10 : decode cX8_outside 10 = .ok (.if_icmp .le 8, 3) := by decide +kernel
theorem dX8_outside_13 : decode cX8_outside 13 = .ok (.bipush (-6), 2) := by decide +kernel
theorem dX8_outside_15 : decode cX8_outside 15 = .ok (.goto 4, 3) := by decide +kernel
theorem dX8_outside_18 : decode cX8_outside 18 = .ok (.iconst 0, 1) := by decide +kernel
theorem dX8_outside_19 : decode cX8_outside 19 = .ok (.ireturn, 1) := by decide +kernel
theorem dX8_notACover_0 : decode cX8_notACover 0 = .ok (.iload_n 0, 1) := by decide +kernel
theorem dX8_notACover_1 : decode cX8_notACover 1 = .ok (.iconst (-1), 1) := by decide +kernel
theorem dX8_notACover_2 : decode cX8_notACover 2 = .ok (.if_icmp .eq 10, 3) := by decide +kernel
theorem dX8_notACover_5 : decode cX8_notACover 5 = .ok (.iload_n 0, 1) := by decide +kernel
theorem dX8_notACover_6 : decode cX8_notACover 6 = .ok (.invokestatic 118, 3) := by decide +kernel
theorem dX8_notACover_9 : decode cX8_notACover 9 = .ok (.ifCond .eq 14, 3) := by decide +kernel
theorem dX8_notACover_12 : decode cX8_notACover 12 = .ok (.iload_n 1, 1) := by decide +kernel
theorem dX8_notACover_13 : decode cX8_notACover 13 = .ok (.iconst 0, 1) := by decide +kernel
theorem dX8_notACover_14 : decode cX8_notACover 14 = .ok (.sipush 14640, 3) := by decide +kernel
theorem dX8_notACover_17 : decode cX8_notACover 17 = .ok (.invokestatic 77, 3) := by decide +kernel
theorem dX8_notACover_20 : decode cX8_notACover 20 = .ok (.goto 4, 3) := by decide +kernel
theorem dX8_notACover_23 : decode cX8_notACover 23 = .ok (.iconst (-1), 1) := by decide +kernel
theorem dX8_notACover_24 : decode cX8_notACover 24 = .ok (.ireturn, 1) := by decide +kernel
theorem dX8_notAtOffice_0 : decode cX8_notAtOffice 0 = .ok (.aload_n 0, 1) := by decide +kernel
theorem dX8_notAtOffice_1 : decode cX8_notAtOffice 1 = .ok (.getfield 35, 3) := by decide +kernel
theorem dX8_notAtOffice_4 : decode cX8_notAtOffice 4 = .ok (.iload_n 1, 1) := by decide +kernel
theorem dX8_notAtOffice_5 : decode cX8_notAtOffice 5 = .ok (.invokevirtual 202, 3) := by decide +kernel
theorem dX8_notAtOffice_8 : decode cX8_notAtOffice 8 = .ok (.ifCond .ne 5, 3) := by decide +kernel
theorem dX8_notAtOffice_11 : decode cX8_notAtOffice 11 = .ok (.iconst (-1), 1) := by decide +kernel
theorem dX8_notAtOffice_12 : decode cX8_notAtOffice 12 = .ok (.ireturn, 1) := by decide +kernel
theorem dX8_notAtOffice_13 : decode cX8_notAtOffice 13 = .ok (.aload_n 0, 1) := by decide +kernel
theorem dX8_notAtOffice_14 : decode cX8_notAtOffice 14 = .ok (.getfield 41, 3) := by decide +kernel
theorem dX8_notAtOffice_17 : decode cX8_notAtOffice 17 = .ok (.getfield 208, 3) := by decide +kernel
theorem dX8_notAtOffice_20 : decode cX8_notAtOffice 20 = .ok (.iload_n 1, 1) := by decide +kernel
theorem dX8_notAtOffice_21 : decode cX8_notAtOffice 21 = .ok (.iaload, 1) := by decide +kernel
theorem dX8_notAtOffice_22 : decode cX8_notAtOffice 22 = .ok (.ifCond .ne 7, 3) := by decide +kernel
theorem dX8_notAtOffice_25 : decode cX8_notAtOffice 25 = .ok (.iconst 0, 1) := by decide +kernel
theorem dX8_notAtOffice_26 : decode cX8_notAtOffice 26 = .ok (.goto 5, 3) := by decide +kernel
theorem dX8_notAtOffice_29 : decode cX8_notAtOffice 29 = .ok (.bipush (-3), 2) := by decide +kernel
theorem dX8_notAtOffice_31 : decode cX8_notAtOffice 31 = .ok (.ireturn, 1) := by decide +kernel
theorem dX9_init_0 : decode cX9_init 0 = .ok (.aload_n 0, 1) := by decide +kernel
theorem dX9_init_1 : decode cX9_init 1 = .ok (.invokespecial 1, 3) := by decide +kernel
theorem dX9_init_4 : decode cX9_init 4 = .ok (.aload_n 0, 1) := by decide +kernel
theorem dX9_init_5 : decode cX9_init 5 = .ok (.bipush 7, 2) := by decide +kernel
theorem dX9_init_7 : decode cX9_init 7 = .ok (.newarray .int, 2) := by decide +kernel
theorem dX9_init_9 : decode cX9_init 9 = .ok (.putfield 7, 3) := by decide +kernel
theorem dX9_init_12 : decode cX9_init 12 = .ok (.aload_n 0, 1) := by decide +kernel
theorem dX9_init_13 : decode cX9_init 13 = .ok (.bipush 12, 2) := by decide +kernel
theorem dX9_init_15 : decode cX9_init 15 = .ok (.newarray .int, 2) := by decide +kernel
theorem dX9_init_17 : decode cX9_init 17 = .ok (.putfield 13, 3) := by decide +kernel
theorem dX9_init_20 : decode cX9_init 20 = .ok (.aload_n 0, 1) := by decide +kernel
theorem dX9_init_21 : decode cX9_init 21 = .ok (.bipush 24, 2) := by decide +kernel
theorem dX9_init_23 : decode cX9_init 23 = .ok (.newarray .int, 2) := by decide +kernel
theorem dX9_init_25 : decode cX9_init 25 = .ok (.putfield 16, 3) := by decide +kernel
theorem dX9_init_28 : decode cX9_init 28 = .ok (.aload_n 0, 1) := by decide +kernel
theorem dX9_init_29 : decode cX9_init 29 = .ok (.bipush 24, 2) := by decide +kernel
theorem dX9_init_31 : decode cX9_init 31 = .ok (.newarray .int, 2) := by decide +kernel
theorem dX9_init_33 : decode cX9_init 33 = .ok (.putfield 19, 3) := by decide +kernel
theorem dX9_init_36 : decode cX9_init 36 = .ok (.aload_n 0, 1) := by decide +kernel
theorem dX9_init_37 : decode cX9_init 37 = .ok (.bipush 24, 2) := by decide +kernel
theorem dX9_init_39 : decode cX9_init 39 = .ok (.newarray .int, 2) := by decide +kernel
theorem dX9_init_41 : decode cX9_init 41 = .ok (.putfield 22, 3) := by decide +kernel
theorem dX9_init_44 : decode cX9_init 44 = .ok (.aload_n 0, 1) := by decide +kernel
theorem dX9_init_45 : decode cX9_init 45 = .ok (.bipush 24, 2) := by decide +kernel
theorem dX9_init_47 : decode cX9_init 47 = .ok (.newarray .int, 2) := by decide +kernel
theorem dX9_init_49 : decode cX9_init 49 = .ok (.putfield 25, 3) := by decide +kernel
theorem dX9_init_52 : decode cX9_init 52 = .ok (.aload_n 0, 1) := by decide +kernel
theorem dX9_init_53 : decode cX9_init 53 = .ok (.bipush 24, 2) := by decide +kernel
theorem dX9_init_55 : decode cX9_init 55 = .ok (.newarray .int, 2) := by decide +kernel
theorem dX9_init_57 : decode cX9_init 57 = .ok (.putfield 28, 3) := by decide +kernel
theorem dX9_init_60 : decode cX9_init 60 = .ok (.aload_n 0, 1) := by decide +kernel
theorem dX9_init_61 : decode cX9_init 61 = .ok (.bipush 40, 2) := by decide +kernel
theorem dX9_init_63 : decode cX9_init 63 = .ok (.newarray .int, 2) := by decide +kernel
theorem dX9_init_65 : decode cX9_init 65 = .ok (.putfield 31, 3) := by decide +kernel
theorem dX9_init_68 : decode cX9_init 68 = .ok (.aload_n 0, 1) := by decide +kernel
theorem dX9_init_69 : decode cX9_init 69 = .ok (.bipush 40, 2) := by decide +kernel
theorem dX9_init_71 : decode cX9_init 71 = .ok (.newarray .int, 2) := by decide +kernel
theorem dX9_init_73 : decode cX9_init 73 = .ok (.putfield 34, 3) := by decide +kernel
theorem dX9_init_76 : decode cX9_init 76 = .ok (.aload_n 0, 1) := by decide +kernel
theorem dX9_init_77 : decode cX9_init 77 = .ok (.bipush 40, 2) := by decide +kernel
theorem dX9_init_79 : decode cX9_init 79 = .ok (.newarray .int, 2) := by decide +kernel
theorem dX9_init_81 : decode cX9_init 81 = .ok (.putfield 37, 3) := by decide +kernel
theorem dX9_init_84 : decode cX9_init 84 = .ok (.aload_n 0, 1) := by decide +kernel
theorem dX9_init_85 : decode cX9_init 85 = .ok (.sipush 144, 3) := by decide +kernel
theorem dX9_init_88 : decode cX9_init 88 = .ok (.newarray .int, 2) := by decide +kernel
theorem dX9_init_90 : decode cX9_init 90 = .ok (.putfield 40, 3) := by decide +kernel
theorem dX9_init_93 : decode cX9_init 93 = .ok (.aload_n 0, 1) := by decide +kernel
theorem dX9_init_94 : decode cX9_init 94 = .ok (.bipush 12, 2) := by decide +kernel
theorem dX9_init_96 : decode cX9_init 96 = .ok (.newarray .boolean, 2) := by decide +kernel
theorem dX9_init_98 : decode cX9_init 98 = .ok (.putfield 43, 3) := by decide +kernel
theorem dX9_init_101 : decode cX9_init 101 = .ok (.aload_n 0, 1) := by decide +kernel
theorem dX9_init_102 : decode cX9_init 102 = .ok (.bipush 60, 2) := by decide +kernel
theorem dX9_init_104 : decode cX9_init 104 = .ok (.newarray .int, 2) := by decide +kernel
theorem dX9_init_106 : decode cX9_init 106 = .ok (.putfield 47, 3) := by decide +kernel
theorem dX9_init_109 : decode cX9_init 109 = .ok (.aload_n 0, 1) := by decide +kernel
theorem dX9_init_110 : decode cX9_init 110 = .ok (.bipush 60, 2) := by decide +kernel
theorem dX9_init_112 : decode cX9_init 112 = .ok (.newarray .int, 2) := by decide +kernel
theorem dX9_init_114 : decode cX9_init 114 = .ok (.putfield 50, 3) := by decide +kernel
theorem dX9_init_117 : decode cX9_init 117 = .ok (.aload_n 0, 1) := by decide +kernel
theorem dX9_init_118 : decode cX9_init 118 = .ok (.bipush 60, 2) := by decide +kernel
theorem dX9_init_120 : decode cX9_init 120 = .ok (.newarray .int, 2) := by decide +kernel
theorem dX9_init_122 : decode cX9_init 122 = .ok (.putfield 53, 3) := by decide +kernel
theorem dX9_init_125 : decode cX9_init 125 = .ok (.aload_n 0, 1) := by decide +kernel
theorem dX9_init_126 : decode cX9_init 126 = .ok (.bipush 60, 2) := by decide +kernel
theorem dX9_init_128 : decode cX9_init 128 = .ok (.newarray .int, 2) := by decide +kernel
theorem dX9_init_130 : decode cX9_init 130 = .ok (.putfield 56, 3) := by decide +kernel
theorem dX9_init_133 : decode cX9_init 133 = .ok (.aload_n 0, 1) := by decide +kernel
theorem dX9_init_134 : decode cX9_init 134 = .ok (.bipush 40, 2) := by decide +kernel
theorem dX9_init_136 : decode cX9_init 136 = .ok (.newarray .int, 2) := by decide +kernel
theorem dX9_init_138 : decode cX9_init 138 = .ok (.putfield 59, 3) := by decide +kernel
theorem dX9_init_141 : decode cX9_init 141 = .ok (.aload_n 0, 1) := by decide +kernel
theorem dX9_init_142 : decode cX9_init 142 = .ok (.bipush 40, 2) := by decide +kernel
theorem dX9_init_144 : decode cX9_init 144 = .ok (.newarray .int, 2) := by decide +kernel
theorem dX9_init_146 : decode cX9_init 146 = .ok (.putfield 62, 3) := by decide +kernel
theorem dX9_init_149 : decode cX9_init 149 = .ok (.aload_n 0, 1) := by decide +kernel
theorem dX9_init_150 : decode cX9_init 150 = .ok (.bipush 80, 2) := by decide +kernel
theorem dX9_init_152 : decode cX9_init 152 = .ok (.newarray .int, 2) := by decide +kernel
theorem dX9_init_154 : decode cX9_init 154 = .ok (.putfield 65, 3) := by decide +kernel
theorem dX9_init_157 : decode cX9_init 157 = .ok (.aload_n 0, 1) := by decide +kernel
theorem dX9_init_158 : decode cX9_init 158 = .ok (.bipush 80, 2) := by decide +kernel
theorem dX9_init_160 : decode cX9_init 160 = .ok (.newarray .int, 2) := by decide +kernel
theorem dX9_init_162 : decode cX9_init 162 = .ok (.putfield 68, 3) := by decide +kernel
theorem dX9_init_165 : decode cX9_init 165 = .ok (.aload_n 0, 1) := by decide +kernel
theorem dX9_init_166 : decode cX9_init 166 = .ok (.bipush 80, 2) := by decide +kernel
theorem dX9_init_168 : decode cX9_init 168 = .ok (.newarray .int, 2) := by decide +kernel
theorem dX9_init_170 : decode cX9_init 170 = .ok (.putfield 71, 3) := by decide +kernel
theorem dX9_init_173 : decode cX9_init 173 = .ok (.aload_n 0, 1) := by decide +kernel
theorem dX9_init_174 : decode cX9_init 174 = .ok (.bipush 80, 2) := by decide +kernel
theorem dX9_init_176 : decode cX9_init 176 = .ok (.newarray .int, 2) := by decide +kernel
theorem dX9_init_178 : decode cX9_init 178 = .ok (.putfield 74, 3) := by decide +kernel
theorem dX9_init_181 : decode cX9_init 181 = .ok (.aload_n 0, 1) := by decide +kernel
theorem dX9_init_182 : decode cX9_init 182 = .ok (.bipush 60, 2) := by decide +kernel
theorem dX9_init_184 : decode cX9_init 184 = .ok (.newarray .int, 2) := by decide +kernel
theorem dX9_init_186 : decode cX9_init 186 = .ok (.putfield 77, 3) := by decide +kernel
theorem dX9_init_189 : decode cX9_init 189 = .ok (.aload_n 0, 1) := by decide +kernel
theorem dX9_init_190 : decode cX9_init 190 = .ok (.bipush 60, 2) := by decide +kernel
theorem dX9_init_192 : decode cX9_init 192 = .ok (.newarray .int, 2) := by decide +kernel
theorem dX9_init_194 : decode cX9_init 194 = .ok (.putfield 80, 3) := by decide +kernel
theorem dX9_init_197 : decode cX9_init 197 = .ok (.aload_n 0, 1) := by decide +kernel
theorem dX9_init_198 : decode cX9_init 198 = .ok (.bipush 60, 2) := by decide +kernel
theorem dX9_init_200 : decode cX9_init 200 = .ok (.newarray .int, 2) := by decide +kernel
theorem dX9_init_202 : decode cX9_init 202 = .ok (.putfield 83, 3) := by decide +kernel
theorem dX9_init_205 : decode cX9_init 205 = .ok (.aload_n 0, 1) := by decide +kernel
theorem dX9_init_206 : decode cX9_init 206 = .ok (.bipush 60, 2) := by decide +kernel
theorem dX9_init_208 : decode cX9_init 208 = .ok (.newarray .int, 2) := by decide +kernel
theorem dX9_init_210 : decode cX9_init 210 = .ok (.putfield 86, 3) := by decide +kernel
theorem dX9_init_213 : decode cX9_init 213 = .ok (.aload_n 0, 1) := by decide +kernel
theorem dX9_init_214 : decode cX9_init 214 = .ok (.bipush 60, 2) := by decide +kernel
theorem dX9_init_216 : decode cX9_init 216 = .ok (.newarray .int, 2) := by decide +kernel
theorem dX9_init_218 : decode cX9_init 218 = .ok (.putfield 89, 3) := by decide +kernel
theorem dX9_init_221 : decode cX9_init 221 = .ok (.aload_n 0, 1) := by decide +kernel
theorem dX9_init_222 : decode cX9_init 222 = .ok (.bipush 60, 2) := by decide +kernel
theorem dX9_init_224 : decode cX9_init 224 = .ok (.newarray .int, 2) := by decide +kernel
theorem dX9_init_226 : decode cX9_init 226 = .ok (.putfield 92, 3) := by decide +kernel
theorem dX9_init_229 : decode cX9_init 229 = .ok (.aload_n 0, 1) := by decide +kernel
theorem dX9_init_230 : decode cX9_init 230 = .ok (.bipush 60, 2) := by decide +kernel
theorem dX9_init_232 : decode cX9_init 232 = .ok (.newarray .int, 2) := by decide +kernel
theorem dX9_init_234 : decode cX9_init 234 = .ok (.putfield 95, 3) := by decide +kernel
theorem dX9_init_237 : decode cX9_init 237 = .ok (.aload_n 0, 1) := by decide +kernel
theorem dX9_init_238 : decode cX9_init 238 = .ok (.bipush 60, 2) := by decide +kernel
theorem dX9_init_240 : decode cX9_init 240 = .ok (.newarray .int, 2) := by decide +kernel
theorem dX9_init_242 : decode cX9_init 242 = .ok (.putfield 98, 3) := by decide +kernel
theorem dX9_init_245 : decode cX9_init 245 = .ok (.aload_n 0, 1) := by decide +kernel
theorem dX9_init_246 : decode cX9_init 246 = .ok (.bipush 60, 2) := by decide +kernel
theorem dX9_init_248 : decode cX9_init 248 = .ok (.newarray .int, 2) := by decide +kernel
theorem dX9_init_250 : decode cX9_init 250 = .ok (.putfield 101, 3) := by decide +kernel
theorem dX9_init_253 : decode cX9_init 253 = .ok (.aload_n 0, 1) := by decide +kernel
theorem dX9_init_254 : decode cX9_init 254 = .ok (.bipush 60, 2) := by decide +kernel
theorem dX9_init_256 : decode cX9_init 256 = .ok (.newarray .int, 2) := by decide +kernel
theorem dX9_init_258 : decode cX9_init 258 = .ok (.putfield 104, 3) := by decide +kernel
theorem dX9_init_261 : decode cX9_init 261 = .ok (.aload_n 0, 1) := by decide +kernel
theorem dX9_init_262 : decode cX9_init 262 = .ok (.sipush 2400, 3) := by decide +kernel
theorem dX9_init_265 : decode cX9_init 265 = .ok (.newarray .int, 2) := by decide +kernel
theorem dX9_init_267 : decode cX9_init 267 = .ok (.putfield 107, 3) := by decide +kernel
theorem dX9_init_270 : decode cX9_init 270 = .ok (.aload_n 0, 1) := by decide +kernel
theorem dX9_init_271 : decode cX9_init 271 = .ok (.bipush 60, 2) := by decide +kernel
theorem dX9_init_273 : decode cX9_init 273 = .ok (.newarray .boolean, 2) := by decide +kernel
theorem dX9_init_275 : decode cX9_init 275 = .ok (.putfield 110, 3) := by decide +kernel
theorem dX9_init_278 : decode cX9_init 278 = .ok (.aload_n 0, 1) := by decide +kernel
theorem dX9_init_279 : decode cX9_init 279 = .ok (.bipush 60, 2) := by decide +kernel
theorem dX9_init_281 : decode cX9_init 281 = .ok (.newarray .boolean, 2) := by decide +kernel
theorem dX9_init_283 : decode cX9_init 283 = .ok (.putfield 113, 3) := by decide +kernel
theorem dX9_init_286 : decode cX9_init 286 = .ok (.aload_n 0, 1) := by decide +kernel
theorem dX9_init_287 : decode cX9_init 287 = .ok (.bipush 72, 2) := by decide +kernel
theorem dX9_init_289 : decode cX9_init 289 = .ok (.putfield 116, 3) := by decide +kernel
theorem dX9_init_292 : decode cX9_init 292 = .ok (.aload_n 0, 1) := by decide +kernel
theorem dX9_init_293 : decode cX9_init 293 = .ok (.bipush 60, 2) := by decide +kernel
theorem dX9_init_295 : decode cX9_init 295 = .ok (.newarray .int, 2) := by decide +kernel
theorem dX9_init_297 : decode cX9_init 297 = .ok (.putfield 120, 3) := by decide +kernel
theorem dX9_init_300 : decode cX9_init 300 = .ok (.aload_n 0, 1) := by decide +kernel
theorem dX9_init_301 : decode cX9_init 301 = .ok (.sipush 1800, 3) := by decide +kernel
theorem dX9_init_304 : decode cX9_init 304 = .ok (.newarray .int, 2) := by decide +kernel
theorem dX9_init_306 : decode cX9_init 306 = .ok (.putfield 123, 3) := by decide +kernel
theorem dX9_init_309 : decode cX9_init 309 = .ok (.aload_n 0, 1) := by decide +kernel
theorem dX9_init_310 : decode cX9_init 310 = .ok (.bipush 30, 2) := by decide +kernel
theorem dX9_init_312 : decode cX9_init 312 = .ok (.newarray .int, 2) := by decide +kernel
theorem dX9_init_314 : decode cX9_init 314 = .ok (.putfield 126, 3) := by decide +kernel
theorem dX9_init_317 : decode cX9_init 317 = .ok (.aload_n 0, 1) := by decide +kernel
theorem dX9_init_318 : decode cX9_init 318 = .ok (.bipush 30, 2) := by decide +kernel
theorem dX9_init_320 : decode cX9_init 320 = .ok (.newarray .int, 2) := by decide +kernel
theorem dX9_init_322 : decode cX9_init 322 = .ok (.putfield 129, 3) := by decide +kernel
theorem dX9_init_325 : decode cX9_init 325 = .ok (.aload_n 0, 1) := by decide +kernel
theorem dX9_init_326 : decode cX9_init 326 = .ok (.bipush 30, 2) := by decide +kernel
theorem dX9_init_328 : decode cX9_init 328 = .ok (.newarray .int, 2) := by decide +kernel
theorem dX9_init_330 : decode cX9_init 330 = .ok (.putfield 132, 3) := by decide +kernel
theorem dX9_init_333 : decode cX9_init 333 = .ok (.aload_n 0, 1) := by decide +kernel
theorem dX9_init_334 : decode cX9_init 334 = .ok (.bipush 8, 2) := by decide +kernel
theorem dX9_init_336 : decode cX9_init 336 = .ok (.newarray .int, 2) := by decide +kernel
theorem dX9_init_338 : decode cX9_init 338 = .ok (.putfield 135, 3) := by decide +kernel
theorem dX9_init_341 : decode cX9_init 341 = .ok (.aload_n 0, 1) := by decide +kernel
theorem dX9_init_342 : decode cX9_init 342 = .ok (.sipush 128, 3) := by decide +kernel
theorem dX9_init_345 : decode cX9_init 345 = .ok (.newarray .int, 2) := by decide +kernel
theorem dX9_init_347 : decode cX9_init 347 = .ok (.putfield 138, 3) := by decide +kernel
theorem dX9_init_350 : decode cX9_init 350 = .ok (.aload_n 0, 1) := by decide +kernel
theorem dX9_init_351 : decode cX9_init 351 = .ok (.bipush 60, 2) := by decide +kernel
theorem dX9_init_353 : decode cX9_init 353 = .ok (.newarray .int, 2) := by decide +kernel
theorem dX9_init_355 : decode cX9_init 355 = .ok (.putfield 141, 3) := by decide +kernel
theorem dX9_init_358 : decode cX9_init 358 = .ok (.aload_n 0, 1) := by decide +kernel
theorem dX9_init_359 : decode cX9_init 359 = .ok (.bipush 60, 2) := by decide +kernel
theorem dX9_init_361 : decode cX9_init 361 = .ok (.newarray .int, 2) := by decide +kernel
theorem dX9_init_363 : decode cX9_init 363 = .ok (.putfield 144, 3) := by decide +kernel
theorem dX9_init_366 : decode cX9_init 366 = .ok (.aload_n 0, 1) := by decide +kernel
theorem dX9_init_367 : decode cX9_init 367 = .ok (.bipush 60, 2) := by decide +kernel
theorem dX9_init_369 : decode cX9_init 369 = .ok (.newarray .boolean, 2) := by decide +kernel
theorem dX9_init_371 : decode cX9_init 371 = .ok (.putfield 147, 3) := by decide +kernel
theorem dX9_init_374 : decode cX9_init 374 = .ok (.aload_n 0, 1) := by decide +kernel
theorem dX9_init_375 : decode cX9_init 375 = .ok (.bipush 60, 2) := by decide +kernel
theorem dX9_init_377 : decode cX9_init 377 = .ok (.newarray .int, 2) := by decide +kernel
theorem dX9_init_379 : decode cX9_init 379 = .ok (.putfield 150, 3) := by decide +kernel
theorem dX9_init_382 : decode cX9_init 382 = .ok (.aload_n 0, 1) := by decide +kernel
theorem dX9_init_383 : decode cX9_init 383 = .ok (.bipush 60, 2) := by decide +kernel
theorem dX9_init_385 : decode cX9_init 385 = .ok (.newarray .int, 2) := by decide +kernel
theorem dX9_init_387 : decode cX9_init 387 = .ok (.putfield 153, 3) := by decide +kernel
theorem dX9_init_390 : decode cX9_init 390 = .ok (.aload_n 0, 1) := by decide +kernel
theorem dX9_init_391 : decode cX9_init 391 = .ok (.bipush 60, 2) := by decide +kernel
theorem dX9_init_393 : decode cX9_init 393 = .ok (.newarray .int, 2) := by decide +kernel
theorem dX9_init_395 : decode cX9_init 395 = .ok (.putfield 156, 3) := by decide +kernel
theorem dX9_init_398 : decode cX9_init 398 = .ok (.aload_n 0, 1) := by decide +kernel
theorem dX9_init_399 : decode cX9_init 399 = .ok (.bipush 60, 2) := by decide +kernel
theorem dX9_init_401 : decode cX9_init 401 = .ok (.newarray .int, 2) := by decide +kernel
theorem dX9_init_403 : decode cX9_init 403 = .ok (.putfield 159, 3) := by decide +kernel
theorem dX9_init_406 : decode cX9_init 406 = .ok (.aload_n 0, 1) := by decide +kernel
theorem dX9_init_407 : decode cX9_init 407 = .ok (.bipush 60, 2) := by decide +kernel
theorem dX9_init_409 : decode cX9_init 409 = .ok (.newarray .int, 2) := by decide +kernel
theorem dX9_init_411 : decode cX9_init 411 = .ok (.putfield 162, 3) := by decide +kernel
theorem dX9_init_414 : decode cX9_init 414 = .ok (.aload_n 0, 1) := by decide +kernel
theorem dX9_init_415 : decode cX9_init 415 = .ok (.bipush 60, 2) := by decide +kernel
theorem dX9_init_417 : decode cX9_init 417 = .ok (.newarray .boolean, 2) := by decide +kernel
theorem dX9_init_419 : decode cX9_init 419 = .ok (.putfield 165, 3) := by decide +kernel
theorem dX9_init_422 : decode cX9_init 422 = .ok (.aload_n 0, 1) := by decide +kernel
theorem dX9_init_423 : decode cX9_init 423 = .ok (.bipush 60, 2) := by decide +kernel
theorem dX9_init_425 : decode cX9_init 425 = .ok (.newarray .boolean, 2) := by decide +kernel
theorem dX9_init_427 : decode cX9_init 427 = .ok (.putfield 168, 3) := by decide +kernel
theorem dX9_init_430 : decode cX9_init 430 = .ok (.aload_n 0, 1) := by decide +kernel
theorem dX9_init_431 : decode cX9_init 431 = .ok (.bipush 7, 2) := by decide +kernel
theorem dX9_init_433 : decode cX9_init 433 = .ok (.newarray .int, 2) := by decide +kernel
theorem dX9_init_435 : decode cX9_init 435 = .ok (.putfield 171, 3) := by decide +kernel
theorem dX9_init_438 : decode cX9_init 438 = .ok (.aload_n 0, 1) := by decide +kernel
theorem dX9_init_439 : decode cX9_init 439 = .ok (.bipush 7, 2) := by decide +kernel
theorem dX9_init_441 : decode cX9_init 441 = .ok (.newarray .int, 2) := by decide +kernel
theorem dX9_init_443 : decode cX9_init 443 = .ok (.putfield 174, 3) := by decide +kernel
theorem dX9_init_446 : decode cX9_init 446 = .ok (.aload_n 0, 1) := by decide +kernel
theorem dX9_init_447 : decode cX9_init 447 = .ok (.bipush 7, 2) := by decide +kernel
theorem dX9_init_449 : decode cX9_init 449 = .ok (.newarray .int, 2) := by decide +kernel
theorem dX9_init_451 : decode cX9_init 451 = .ok (.putfield 177, 3) := by decide +kernel
theorem dX9_init_454 : decode cX9_init 454 = .ok (.aload_n 0, 1) := by decide +kernel
theorem dX9_init_455 : decode cX9_init 455 = .ok (.bipush 12, 2) := by decide +kernel
theorem dX9_init_457 : decode cX9_init 457 = .ok (.newarray .int, 2) := by decide +kernel
theorem dX9_init_459 : decode cX9_init 459 = .ok (.putfield 180, 3) := by decide +kernel
theorem dX9_init_462 : decode cX9_init 462 = .ok (.return_, 1) := by decide +kernel
theorem dX9_no_0 : decode cX9_no 0 = .ok (.aload_n 0, 1) := by decide +kernel
theorem dX9_no_1 : decode cX9_no 1 = .ok (.getfield 7, 3) := by decide +kernel
