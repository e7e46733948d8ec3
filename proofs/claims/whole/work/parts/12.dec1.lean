theorem dX0_init_0 : decode cX0_init 0 = .ok (.aload_n 0, 1) := by decide +kernel
theorem dX0_init_1 : decode cX0_init 1 = .ok (.invokespecial 3, 3) := by decide +kernel
theorem dX0_init_4 : decode cX0_init 4 = .ok (.aload_n 0, 1) := by decide +kernel
theorem dX0_init_5 : decode cX0_init 5 = .ok (.bipush 60, 2) := by decide +kernel
theorem dX0_init_7 : decode cX0_init 7 = .ok (.newarray .int, 2) := by decide +kernel
theorem dX0_init_9 : decode cX0_init 9 = .ok (.putfield 9, 3) := by decide +kernel
theorem dX0_init_12 : decode cX0_init 12 = .ok (.aload_n 0, 1) := by decide +kernel
theorem dX0_init_13 : decode cX0_init 13 = .ok (.bipush 60, 2) := by decide +kernel
theorem dX0_init_15 : decode cX0_init 15 = .ok (.newarray .int, 2) := by decide +kernel
theorem dX0_init_17 : decode cX0_init 17 = .ok (.putfield 15, 3) := by decide +kernel
theorem dX0_init_20 : decode cX0_init 20 = .ok (.aload_n 0, 1) := by decide +kernel
theorem dX0_init_21 : decode cX0_init 21 = .ok (.bipush 60, 2) := by decide +kernel
theorem dX0_init_23 : decode cX0_init 23 = .ok (.newarray .int, 2) := by decide +kernel
theorem dX0_init_25 : decode cX0_init 25 = .ok (.putfield 18, 3) := by decide +kernel
theorem dX0_init_28 : decode cX0_init 28 = .ok (.aload_n 0, 1) := by decide +kernel
theorem dX0_init_29 : decode cX0_init 29 = .ok (.bipush 60, 2) := by decide +kernel
theorem dX0_init_31 : decode cX0_init 31 = .ok (.newarray .boolean, 2) := by decide +kernel
theorem dX0_init_33 : decode cX0_init 33 = .ok (.putfield 21, 3) := by decide +kernel
theorem dX0_init_36 : decode cX0_init 36 = .ok (.aload_n 0, 1) := by decide +kernel
theorem dX0_init_37 : decode cX0_init 37 = .ok (.bipush 60, 2) := by decide +kernel
theorem dX0_init_39 : decode cX0_init 39 = .ok (.newarray .int, 2) := by decide +kernel
theorem dX0_init_41 : decode cX0_init 41 = .ok (.putfield 25, 3) := by decide +kernel
theorem dX0_init_44 : decode cX0_init 44 = .ok (.aload_n 0, 1) := by decide +kernel
theorem dX0_init_45 : decode cX0_init 45 = .ok (.bipush 60, 2) := by decide +kernel
theorem dX0_init_47 : decode cX0_init 47 = .ok (.newarray .int, 2) := by decide +kernel
theorem dX0_init_49 : decode cX0_init 49 = .ok (.putfield 28, 3) := by decide +kernel
theorem dX0_init_52 : decode cX0_init 52 = .ok (.aload_n 0, 1) := by decide +kernel
theorem dX0_init_53 : decode cX0_init 53 = .ok (.bipush 60, 2) := by decide +kernel
theorem dX0_init_55 : decode cX0_init 55 = .ok (.newarray .boolean, 2) := by decide +kernel
theorem dX0_init_57 : decode cX0_init 57 = .ok (.putfield 31, 3) := by decide +kernel
theorem dX0_init_60 : decode cX0_init 60 = .ok (.aload_n 0, 1) := by decide +kernel
theorem dX0_init_61 : decode cX0_init 61 = .ok (.iload_n 1, 1) := by decide +kernel
theorem dX0_init_62 : decode cX0_init 62 = .ok (.iconst 0, 1) := by decide +kernel
theorem dX0_init_63 : decode cX0_init 63 = .ok (.invokestatic 34, 3) := by decide +kernel
theorem dX0_init_66 : decode cX0_init 66 = .ok (.newarray .byte, 2) := by decide +kernel
theorem dX0_init_68 : decode cX0_init 68 = .ok (.putfield 40, 3) := by decide +kernel
theorem dX0_init_71 : decode cX0_init 71 = .ok (.return_, 1) := by decide +kernel
theorem dX0_copyFrom_0 : decode cX0_copyFrom 0 = .ok (.aload_n 1, 1) := by decide +kernel
theorem dX0_copyFrom_1 : decode cX0_copyFrom 1 = .ok (.getfield 9, 3) := by decide +kernel
theorem dX0_copyFrom_4 : decode cX0_copyFrom 4 = .ok (.iconst 0, 1) := by decide +kernel
theorem dX0_copyFrom_5 : decode cX0_copyFrom 5 = .ok (.aload_n 0, 1) := by decide +kernel
theorem dX0_copyFrom_6 : decode cX0_copyFrom 6 = .ok (.getfield 9, 3) := by decide +kernel
theorem dX0_copyFrom_9 : decode cX0_copyFrom 9 = .ok (.iconst 0, 1) := by decide +kernel
theorem dX0_copyFrom_10 : decode cX0_copyFrom 10 = .ok (.iload_n 2, 1) := by decide +kernel
theorem dX0_copyFrom_11 : decode cX0_copyFrom 11 = .ok (.invokestatic 44, 3) := by decide +kernel
theorem dX0_copyFrom_14 : decode cX0_copyFrom 14 = .ok (.aload_n 1, 1) := by decide +kernel
theorem dX0_copyFrom_15 : decode cX0_copyFrom 15 = .ok (.getfield 15, 3) := by decide +kernel
theorem dX0_copyFrom_18 : decode cX0_copyFrom 18 = .ok (.iconst 0, 1) := by decide +kernel
theorem dX0_copyFrom_19 : decode cX0_copyFrom 19 = .ok (.aload_n 0, 1) := by decide +kernel
theorem dX0_copyFrom_20 : decode cX0_copyFrom 20 = .ok (.getfield 15, 3) := by decide +kernel
theorem dX0_copyFrom_23 : decode cX0_copyFrom 23 = .ok (.iconst 0, 1) := by decide +kernel
theorem dX0_copyFrom_24 : decode cX0_copyFrom 24 = .ok (.iload_n 2, 1) := by decide +kernel
theorem dX0_copyFrom_25 : decode cX0_copyFrom 25 = .ok (.invokestatic 44, 3) := by decide +kernel
theorem dX0_copyFrom_28 : decode cX0_copyFrom 28 = .ok (.aload_n 1, 1) := by decide +kernel
theorem dX0_copyFrom_29 : decode cX0_copyFrom 29 = .ok (.getfield 18, 3) := by decide +kernel
theorem dX0_copyFrom_32 : decode cX0_copyFrom 32 = .ok (.iconst 0, 1) := by decide +kernel
theorem dX0_copyFrom_33 : decode cX0_copyFrom 33 = .ok (.aload_n 0, 1) := by decide +kernel
theorem dX0_copyFrom_34 : decode cX0_copyFrom 34 = .ok (.getfield 18, 3) := by decide +kernel
theorem dX0_copyFrom_37 : decode cX0_copyFrom 37 = .ok (.iconst 0, 1) := by decide +kernel
theorem dX0_copyFrom_38 : decode cX0_copyFrom 38 = .ok (.iload_n 2, 1) := by decide +kernel
theorem dX0_copyFrom_39 : decode cX0_copyFrom 39 = .ok (.invokestatic 44, 3) := by decide +kernel
theorem dX0_copyFrom_42 : decode cX0_copyFrom 42 = .ok (.aload_n 1, 1) := by decide +kernel
theorem dX0_copyFrom_43 : decode cX0_copyFrom 43 = .ok (.getfield 21, 3) := by decide +kernel
theorem dX0_copyFrom_46 : decode cX0_copyFrom 46 = .ok (.iconst 0, 1) := by decide +kernel
theorem dX0_copyFrom_47 : decode cX0_copyFrom 47 = .ok (.aload_n 0, 1) := by decide +kernel
theorem dX0_copyFrom_48 : decode cX0_copyFrom 48 = .ok (.getfield 21, 3) := by decide +kernel
theorem dX0_copyFrom_51 : decode cX0_copyFrom 51 = .ok (.iconst 0, 1) := by decide +kernel
theorem dX0_copyFrom_52 : decode cX0_copyFrom 52 = .ok (.iload_n 2, 1) := by decide +kernel
theorem dX0_copyFrom_53 : decode cX0_copyFrom 53 = .ok (.invokestatic 44, 3) := by decide +kernel
theorem dX0_copyFrom_56 : decode cX0_copyFrom 56 = .ok (.aload_n 1, 1) := by decide +kernel
theorem dX0_copyFrom_57 : decode cX0_copyFrom 57 = .ok (.getfield 25, 3) := by decide +kernel
theorem dX0_copyFrom_60 : decode cX0_copyFrom 60 = .ok (.iconst 0, 1) := by decide +kernel
theorem dX0_copyFrom_61 : decode cX0_copyFrom 61 = .ok (.aload_n 0, 1) := by decide +kernel
theorem dX0_copyFrom_62 : decode cX0_copyFrom 62 = .ok (.getfield 25, 3) := by decide +kernel
theorem dX0_copyFrom_65 : decode cX0_copyFrom 65 = .ok (.iconst 0, 1) := by decide +kernel
theorem dX0_copyFrom_66 : decode cX0_copyFrom 66 = .ok (.iload_n 2, 1) := by decide +kernel
theorem dX0_copyFrom_67 : decode cX0_copyFrom 67 = .ok (.invokestatic 44, 3) := by decide +kernel
theorem dX0_copyFrom_70 : decode cX0_copyFrom 70 = .ok (.aload_n 1, 1) := by decide +kernel
theorem dX0_copyFrom_71 : decode cX0_copyFrom 71 = .ok (.getfield 28, 3) := by decide +kernel
theorem dX0_copyFrom_74 : decode cX0_copyFrom 74 = .ok (.iconst 0, 1) := by decide +kernel
theorem dX0_copyFrom_75 : decode cX0_copyFrom 75 = .ok (.aload_n 0, 1) := by decide +kernel
theorem dX0_copyFrom_76 : decode cX0_copyFrom 76 = .ok (.getfield 28, 3) := by decide +kernel
theorem dX0_copyFrom_79 : decode cX0_copyFrom 79 = .ok (.iconst 0, 1) := by decide +kernel
theorem dX0_copyFrom_80 : decode cX0_copyFrom 80 = .ok (.iload_n 2, 1) := by decide +kernel
theorem dX0_copyFrom_81 : decode cX0_copyFrom 81 = .ok (.invokestatic 44, 3) := by decide +kernel
theorem dX0_copyFrom_84 : decode cX0_copyFrom 84 = .ok (.aload_n 1, 1) := by decide +kernel
theorem dX0_copyFrom_85 : decode cX0_copyFrom 85 = .ok (.getfield 31, 3) := by decide +kernel
theorem dX0_copyFrom_88 : decode cX0_copyFrom 88 = .ok (.iconst 0, 1) := by decide +kernel
theorem dX0_copyFrom_89 : decode cX0_copyFrom 89 = .ok (.aload_n 0, 1) := by decide +kernel
theorem dX0_copyFrom_90 : decode cX0_copyFrom 90 = .ok (.getfield 31, 3) := by decide +kernel
theorem dX0_copyFrom_93 : decode cX0_copyFrom 93 = .ok (.iconst 0, 1) := by decide +kernel
theorem dX0_copyFrom_94 : decode cX0_copyFrom 94 = .ok (.iload_n 2, 1) := by decide +kernel
theorem dX0_copyFrom_95 : decode cX0_copyFrom 95 = .ok (.invokestatic 44, 3) := by decide +kernel
theorem dX0_copyFrom_98 : decode cX0_copyFrom 98 = .ok (.return_, 1) := by decide +kernel
theorem dX0_begin_0 : decode cX0_begin 0 = .ok (.aload_n 0, 1) := by decide +kernel
theorem dX0_begin_1 : decode cX0_begin 1 = .ok (.getfield 15, 3) := by decide +kernel
theorem dX0_begin_4 : decode cX0_begin 4 = .ok (.iload_n 1, 1) := by decide +kernel
theorem dX0_begin_5 : decode cX0_begin 5 = .ok (.iload_n 2, 1) := by decide +kernel
theorem dX0_begin_6 : decode cX0_begin 6 = .ok (.iastore, 1) := by decide +kernel
theorem dX0_begin_7 : decode cX0_begin 7 = .ok (.aload_n 0, 1) := by decide +kernel
theorem dX0_begin_8 : decode cX0_begin 8 = .ok (.getfield 18, 3) := by decide +kernel
theorem dX0_begin_11 : decode cX0_begin 11 = .ok (.iload_n 1, 1) := by decide +kernel
theorem dX0_begin_12 : decode cX0_begin 12 = .ok (.iload_n 3, 1) := by decide +kernel
theorem dX0_begin_13 : decode cX0_begin 13 = .ok (.iastore, 1) := by decide +kernel
theorem dX0_begin_14 : decode cX0_begin 14 = .ok (.aload_n 0, 1) := by decide +kernel
theorem dX0_begin_15 : decode cX0_begin 15 = .ok (.iload_n 1, 1) := by decide +kernel
theorem dX0_begin_16 : decode cX0_begin 16 = .ok (.invokevirtual 50, 3) := by decide +kernel
theorem dX0_begin_19 : decode cX0_begin 19 = .ok (.return_, 1) := by decide +kernel
theorem dX0_arrive_0 : decode cX0_arrive 0 = .ok (.iconst 0, 1) := by decide +kernel
theorem dX0_arrive_1 : decode cX0_arrive 1 = .ok (.istore_n 3, 1) := by decide +kernel
theorem dX0_arrive_2 : decode cX0_arrive 2 = .ok (.iload_n 3, 1) := by decide +kernel
theorem dX0_arrive_3 : decode cX0_arrive 3 = .ok (.iload_n 1, 1) := by decide +kernel
theorem dX0_arrive_4 : decode cX0_arrive 4 = .ok (.if_icmp .ge 34, 3) := by decide +kernel
theorem dX0_arrive_7 : decode cX0_arrive 7 = .ok (.aload_n 0, 1) := by decide +kernel
theorem dX0_arrive_8 : decode cX0_arrive 8 = .ok (.getfield 9, 3) := by decide +kernel
theorem dX0_arrive_11 : decode cX0_arrive 11 = .ok (.iload_n 3, 1) := by decide +kernel
theorem dX0_arrive_12 : decode cX0_arrive 12 = .ok (.iaload, 1) := by decide +kernel
theorem dX0_arrive_13 : decode cX0_arrive 13 = .ok (.iconst 1, 1) := by decide +kernel
theorem dX0_arrive_14 : decode cX0_arrive 14 = .ok (.if_icmp .ne 18, 3) := by decide +kernel
theorem dX0_arrive_17 : decode cX0_arrive 17 = .ok (.aload_n 0, 1) := by decide +kernel
theorem dX0_arrive_18 : decode cX0_arrive 18 = .ok (.getfield 18, 3) := by decide +kernel
theorem dX0_arrive_21 : decode cX0_arrive 21 = .ok (.iload_n 3, 1) := by decide +kernel
theorem dX0_arrive_22 : decode cX0_arrive 22 = .ok (.iaload, 1) := by decide +kernel
theorem dX0_arrive_23 : decode cX0_arrive 23 = .ok (.iload_n 2, 1) := by decide +kernel
theorem dX0_arrive_24 : decode cX0_arrive 24 = .ok (.if_icmp .ne 8, 3) := by decide +kernel
theorem dX0_arrive_27 : decode cX0_arrive 27 = .ok (.aload_n 0, 1) := by decide +kernel
theorem dX0_arrive_28 : decode cX0_arrive 28 = .ok (.iload_n 3, 1) := by decide +kernel
theorem dX0_arrive_29 : decode cX0_arrive 29 = .ok (.invokevirtual 50, 3) := by decide +kernel
theorem dX0_arrive_32 : decode cX0_arrive 32 = .ok (.iinc 3 1, 3) := by decide +kernel
theorem dX0_arrive_35 : decode cX0_arrive 35 = .ok (.goto (-33), 3) := by decide +kernel
theorem dX0_arrive_38 : decode cX0_arrive 38 = .ok (.return_, 1) := by decide +kernel
theorem dX0_come_0 : decode cX0_come 0 = .ok (.aload_n 0, 1) := by decide +kernel
theorem dX0_come_1 : decode cX0_come 1 = .ok (.getfield 9, 3) := by decide +kernel
theorem dX0_come_4 : decode cX0_come 4 = .ok (.iload_n 1, 1) := by decide +kernel
theorem dX0_come_5 : decode cX0_come 5 = .ok (.iconst 0, 1) := by decide +kernel
theorem dX0_come_6 : decode cX0_come 6 = .ok (.iastore, 1) := by decide +kernel
theorem dX0_come_7 : decode cX0_come 7 = .ok (.iload_n 1, 1) := by decide +kernel
theorem dX0_come_8 : decode cX0_come 8 = .ok (.bipush 40, 2) := by decide +kernel
theorem dX0_come_10 : decode cX0_come 10 = .ok (.imul, 1) := by decide +kernel
theorem dX0_come_11 : decode cX0_come 11 = .ok (.aload_n 0, 1) := by decide +kernel
theorem dX0_come_12 : decode cX0_come 12 = .ok (.getfield 28, 3) := by decide +kernel
theorem dX0_come_15 : decode cX0_come 15 = .ok (.iload_n 1, 1) := by decide +kernel
theorem dX0_come_16 : decode cX0_come 16 = .ok (.iaload, 1) := by decide +kernel
theorem dX0_come_17 : decode cX0_come 17 = .ok (.iadd, 1) := by decide +kernel
theorem dX0_come_18 : decode cX0_come 18 = .ok (.istore_n 2, 1) := by decide +kernel
theorem dX0_come_19 : decode cX0_come 19 = .ok (.aload_n 0, 1) := by decide +kernel
theorem dX0_come_20 : decode cX0_come 20 = .ok (.getfield 28, 3) := by decide +kernel
theorem dX0_come_23 : decode cX0_come 23 = .ok (.iload_n 1, 1) := by decide +kernel
theorem dX0_come_24 : decode cX0_come 24 = .ok (.iaload, 1) := by decide +kernel
theorem dX0_come_25 : decode cX0_come 25 = .ok (.bipush 40, 2) := by decide +kernel
theorem dX0_come_27 : decode cX0_come 27 = .ok (.if_icmp .ge 25, 3) := by decide +kernel
theorem dX0_come_30 : decode cX0_come 30 = .ok (.iload_n 2, 1) := by decide +kernel
theorem dX0_come_31 : decode cX0_come 31 = .ok (.aload_n 0, 1) := by decide +kernel
theorem dX0_come_32 : decode cX0_come 32 = .ok (.getfield 40, 3) := by decide +kernel
theorem dX0_come_35 : decode cX0_come 35 = .ok (.arraylength, 1) := by decide +kernel
theorem dX0_come_36 : decode cX0_come 36 = .ok (.if_icmp .ge 16, 3) := by decide +kernel
theorem dX0_come_39 : decode cX0_come 39 = .ok (.aload_n 0, 1) := by decide +kernel
theorem dX0_come_40 : decode cX0_come 40 = .ok (.getfield 40, 3) := by decide +kernel
theorem dX0_come_43 : decode cX0_come 43 = .ok (.iload_n 2, 1) := by decide +kernel
theorem dX0_come_44 : decode cX0_come 44 = .ok (.aload_n 0, 1) := by decide +kernel
theorem dX0_come_45 : decode cX0_come 45 = .ok (.getfield 15, 3) := by decide +kernel
theorem dX0_come_48 : decode cX0_come 48 = .ok (.iload_n 1, 1) := by decide +kernel
theorem dX0_come_49 : decode cX0_come 49 = .ok (.iaload, 1) := by decide +kernel
theorem dX0_come_50 : decode cX0_come 50 = .ok (.i2b, 1) := by decide +kernel
theorem dX0_come_51 : decode cX0_come 51 = .ok (.bastore, 1) := by decide +kernel
theorem dX0_come_52 : decode cX0_come 52 = .ok (.aload_n 0, 1) := by decide +kernel
theorem dX0_come_53 : decode cX0_come 53 = .ok (.getfield 28, 3) := by decide +kernel
theorem dX0_come_56 : decode cX0_come 56 = .ok (.iload_n 1, 1) := by decide +kernel
theorem dX0_come_57 : decode cX0_come 57 = .ok (.dup2, 1) := by decide +kernel
theorem dX0_come_58 : decode cX0_come 58 = .ok (.iaload, 1) := by decide +kernel
theorem dX0_come_59 : decode cX0_come 59 = .ok (.iconst 1, 1) := by decide +kernel
theorem dX0_come_60 : decode cX0_come 60 = .ok (.iadd, 1) := by decide +kernel
theorem dX0_come_61 : decode cX0_come 61 = .ok (.iastore, 1) := by decide +kernel
theorem dX0_come_62 : decode cX0_come 62 = .ok (.return_, 1) := by decide +kernel
theorem dX0_send_0 : decode cX0_send 0 = .ok (.aload_n 0, 1) := by decide +kernel
theorem dX0_send_1 : decode cX0_send 1 = .ok (.getfield 9, 3) := by decide +kernel
theorem dX0_send_4 : decode cX0_send 4 = .ok (.iload_n 1, 1) := by decide +kernel
theorem dX0_send_5 : decode cX0_send 5 = .ok (.iconst 1, 1) := by decide +kernel
theorem dX0_send_6 : decode cX0_send 6 = .ok (.iastore, 1) := by decide +kernel
theorem dX0_send_7 : decode cX0_send 7 = .ok (.aload_n 0, 1) := by decide +kernel
theorem dX0_send_8 : decode cX0_send 8 = .ok (.getfield 15, 3) := by decide +kernel
theorem dX0_send_11 : decode cX0_send 11 = .ok (.iload_n 1, 1) := by decide +kernel
theorem dX0_send_12 : decode cX0_send 12 = .ok (.iload_n 2, 1) := by decide +kernel
theorem dX0_send_13 : decode cX0_send 13 = .ok (.iastore, 1) := by decide +kernel
theorem dX0_send_14 : decode cX0_send 14 = .ok (.aload_n 0, 1) := by decide +kernel
theorem dX0_send_15 : decode cX0_send 15 = .ok (.getfield 18, 3) := by decide +kernel
theorem dX0_send_18 : decode cX0_send 18 = .ok (.iload_n 1, 1) := by decide +kernel
theorem dX0_send_19 : decode cX0_send 19 = .ok (.iload_n 3, 1) := by decide +kernel
theorem dX0_send_20 : decode cX0_send 20 = .ok (.iastore, 1) := by decide +kernel
theorem dX0_send_21 : decode cX0_send 21 = .ok (.return_, 1) := by decide +kernel
theorem dX0_turn_0 : decode cX0_turn 0 = .ok (.aload_n 0, 1) := by decide +kernel
theorem dX0_turn_1 : decode cX0_turn 1 = .ok (.getfield 21, 3) := by decide +kernel
theorem dX0_turn_4 : decode cX0_turn 4 = .ok (.iload_n 1, 1) := by decide +kernel
theorem dX0_turn_5 : decode cX0_turn 5 = .ok (.iconst 1, 1) := by decide +kernel
theorem dX0_turn_6 : decode cX0_turn 6 = .ok (.bastore, 1) := by decide +kernel
theorem dX0_turn_7 : decode cX0_turn 7 = .ok (.aload_n 0, 1) := by decide +kernel
theorem dX0_turn_8 : decode cX0_turn 8 = .ok (.getfield 25, 3) := by decide +kernel
theorem dX0_turn_11 : decode cX0_turn 11 = .ok (.iload_n 1, 1) := by decide +kernel
theorem dX0_turn_12 : decode cX0_turn 12 = .ok (.iload_n 2, 1) := by decide +kernel
theorem dX0_turn_13 : decode cX0_turn 13 = .ok (.iastore, 1) := by decide +kernel
theorem dX0_turn_14 : decode cX0_turn 14 = .ok (.return_, 1) := by decide +kernel
theorem dX0_finish_0 : decode cX0_finish 0 = .ok (.aload_n 0, 1) := by decide +kernel
theorem dX0_finish_1 : decode cX0_finish 1 = .ok (.getfield 9, 3) := by decide +kernel
theorem dX0_finish_4 : decode cX0_finish 4 = .ok (.iload_n 1, 1) := by decide +kernel
theorem dX0_finish_5 : decode cX0_finish 5 = .ok (.iload_n 2, 1) := by decide +kernel
theorem dX0_finish_6 : decode cX0_finish 6 = .ok (.iastore, 1) := by decide +kernel
theorem dX0_finish_7 : decode cX0_finish 7 = .ok (.aload_n 0, 1) := by decide +kernel
theorem dX0_finish_8 : decode cX0_finish 8 = .ok (.getfield 18, 3) := by decide +kernel
theorem dX0_finish_11 : decode cX0_finish 11 = .ok (.iload_n 1, 1) := by decide +kernel
theorem dX0_finish_12 : decode cX0_finish 12 = .ok (.iload_n 3, 1) := by decide +kernel
theorem dX0_finish_13 : decode cX0_finish 13 = .ok (.iastore, 1) := by decide +kernel
theorem dX0_finish_14 : decode cX0_finish 14 = .ok (.return_, 1) := by decide +kernel
theorem dX0_ended_0 : decode cX0_ended 0 = .ok (.aload_n 0, 1) := by decide +kernel
theorem dX0_ended_1 : decode cX0_ended 1 = .ok (.getfield 9, 3) := by decide +kernel
theorem dX0_ended_4 : decode cX0_ended 4 = .ok (.iload_n 1, 1) := by decide +kernel
theorem dX0_ended_5 : decode cX0_ended 5 = .ok (.iaload, 1) := by decide +kernel
theorem dX0_ended_6 : decode cX0_ended 6 = .ok (.iconst 2, 1) := by decide +kernel
theorem dX0_ended_7 : decode cX0_ended 7 = .ok (.if_icmp .lt 7, 3) := by decide +kernel
theorem dX0_ended_10 : decode cX0_ended 10 = .ok (.iconst 1, 1) := by decide +kernel
theorem dX0_ended_11 : decode cX0_ended 11 = .ok (.goto 4, 3) := by decide +kernel
theorem dX0_ended_14 : decode cX0_ended 14 = .ok (.iconst 0, 1) := by decide +kernel
theorem dX0_ended_15 : decode cX0_ended 15 = .ok (.ireturn, 1) := by decide +kernel
theorem dX0_howMany_0 : decode cX0_howMany 0 = .ok (.iconst 0, 1) := by decide +kernel
theorem dX0_howMany_1 : decode cX0_howMany 1 = .ok (.istore_n 3, 1) := by decide +kernel
theorem dX0_howMany_2 : decode cX0_howMany 2 = .ok (.iconst 0, 1) := by decide +kernel
theorem dX0_howMany_3 : decode cX0_howMany 3 = .ok (.istore 4, 2) := by decide +kernel
theorem dX0_howMany_5 : decode cX0_howMany 5 = .ok (.iload 4, 2) := by decide +kernel
theorem dX0_howMany_7 : decode cX0_howMany 7 = .ok (.iload_n 2, 1) := by decide +kernel
theorem dX0_howMany_8 : decode cX0_howMany 8 = .ok (.if_icmp .ge 23, 3) := by decide +kernel
theorem dX0_howMany_11 : decode cX0_howMany 11 = .ok (.aload_n 0, 1) := by decide +kernel
theorem dX0_howMany_12 : decode cX0_howMany 12 = .ok (.getfield 9, 3) := by decide +kernel
theorem dX0_howMany_15 : decode cX0_howMany 15 = .ok (.iload 4, 2) := by decide +kernel
theorem dX0_howMany_17 : decode cX0_howMany 17 = .ok (.iaload, 1) := by decide +kernel
theorem dX0_howMany_18 : decode cX0_howMany 18 = .ok (.iload_n 1, 1) := by decide +kernel
theorem dX0_howMany_19 : decode cX0_howMany 19 = .ok (.if_icmp .ne 6, 3) := by decide +kernel
theorem dX0_howMany_22 : decode cX0_howMany 22 = .ok (.iinc 3 1, 3) := by decide +kernel
theorem dX0_howMany_25 : decode cX0_howMany 25 = .ok (.iinc 4 1, 3) := by decide +kernel
theorem dX0_howMany_28 : decode cX0_howMany 28 = .ok (.goto (-23), 3) := by decide +kernel
theorem dX0_howMany_31 : decode cX0_howMany 31 = .ok (.iload_n 3, 1) := by decide +kernel
theorem dX0_howMany_32 : decode cX0_howMany 32 = .ok (.ireturn, 1) := by decide +kernel
theorem dX0_howManySpoilt_0 : decode cX0_howManySpoilt 0 = .ok (.iconst 0, 1) := by decide +kernel
theorem dX0_howManySpoilt_1 : decode cX0_howManySpoilt 1 = .ok (.istore_n 2, 1) := by decide +kernel
theorem dX0_howManySpoilt_2 : decode cX0_howManySpoilt 2 = .ok (.iconst 0, 1) := by decide +kernel
theorem dX0_howManySpoilt_3 : decode cX0_howManySpoilt 3 = .ok (.istore_n 3, 1) := by decide +kernel
theorem dX0_howManySpoilt_4 : decode cX0_howManySpoilt 4 = .ok (.iload_n 3, 1) := by decide +kernel
theorem dX0_howManySpoilt_5 : decode cX0_howManySpoilt 5 = .ok (.iload_n 1, 1) := by decide +kernel
theorem dX0_howManySpoilt_6 : decode cX0_howManySpoilt 6 = .ok (.if_icmp .ge 21, 3) := by decide +kernel
theorem dX0_howManySpoilt_9 : decode cX0_howManySpoilt 9 = .ok (.aload_n 0, 1) := by decide +kernel
theorem dX0_howManySpoilt_10 : decode cX0_howManySpoilt 10 = .ok (.getfield 31, 3) := by decide +kernel
theorem dX0_howManySpoilt_13 : decode cX0_howManySpoilt 13 = .ok (.iload_n 3, 1) := by decide +kernel
theorem dX0_howManySpoilt_14 : decode cX0_howManySpoilt 14 = .ok (.baload, 1) := by decide +kernel
theorem dX0_howManySpoilt_15 : decode cX0_howManySpoilt 15 = .ok (.ifCond .eq 6, 3) := by decide +kernel
theorem dX0_howManySpoilt_18 : decode cX0_howManySpoilt 18 = .ok (.iinc 2 1, 3) := by decide +kernel
theorem dX0_howManySpoilt_21 : decode cX0_howManySpoilt 21 = .ok (.iinc 3 1, 3) := by decide +kernel
theorem dX0_howManySpoilt_24 : decode cX0_howManySpoilt 24 = .ok (.goto (-20), 3) := by decide +kernel
theorem dX0_howManySpoilt_27 : decode cX0_howManySpoilt 27 = .ok (.iload_n 2, 1) := by decide +kernel
theorem dX0_howManySpoilt_28 : decode cX0_howManySpoilt 28 = .ok (.ireturn, 1) := by decide +kernel
theorem dX0_traced_0 : decode cX0_traced 0 = .ok (.iload_n 1, 1) := by decide +kernel
theorem dX0_traced_1 : decode cX0_traced 1 = .ok (.bipush 40, 2) := by decide +kernel
theorem dX0_traced_3 : decode cX0_traced 3 = .ok (.imul, 1) := by decide +kernel
theorem dX0_traced_4 : decode cX0_traced 4 = .ok (.iload_n 2, 1) := by decide +kernel
theorem dX0_traced_5 : decode cX0_traced 5 = .ok (.iadd, 1) := by decide +kernel
theorem dX0_traced_6 : decode cX0_traced 6 = .ok (.istore_n 3, 1) := by decide +kernel
theorem dX0_traced_7 : decode cX0_traced 7 = .ok (.iload_n 2, 1) := by decide +kernel
theorem dX0_traced_8 : decode cX0_traced 8 = .ok (.ifCond .lt 28, 3) := by decide +kernel
theorem dX0_traced_11 : decode cX0_traced 11 = .ok (.iload_n 2, 1) := by decide +kernel
theorem dX0_traced_12 : decode cX0_traced 12 = .ok (.aload_n 0, 1) := by decide +kernel
theorem dX0_traced_13 : decode cX0_traced 13 = .ok (.getfield 28, 3) := by decide +kernel
theorem dX0_traced_16 : decode cX0_traced 16 = .ok (.iload_n 1, 1) := by decide +kernel
theorem dX0_traced_17 : decode cX0_traced 17 = .ok (.iaload, 1) := by decide +kernel
theorem dX0_traced_18 : decode cX0_traced 18 = .ok (.if_icmp .ge 18, 3) := by decide +kernel
theorem dX0_traced_21 : decode cX0_traced 21 = .ok (.iload_n 2, 1) := by decide +kernel
theorem dX0_traced_22 : decode cX0_traced 22 = .ok (.bipush 40, 2) := by decide +kernel
theorem dX0_traced_24 : decode cX0_traced 24 = .ok (.if_icmp .ge 12, 3) := by decide +kernel
theorem dX0_traced_27 : decode cX0_traced 27 = .ok (.iload_n 3, 1) := by decide +kernel
theorem dX0_traced_28 : decode cX0_traced 28 = .ok (.aload_n 0, 1) := by decide +kernel
theorem dX0_traced_29 : decode cX0_traced 29 = .ok (.getfield 40, 3) := by decide +kernel
theorem dX0_traced_32 : decode cX0_traced 32 = .ok (.arraylength, 1) := by decide +kernel
theorem dX0_traced_33 : decode cX0_traced 33 = .ok (.if_icmp .lt 6, 3) := by decide +kernel
theorem dX0_traced_36 : decode cX0_traced 36 = .ok (.bipush (-9), 2) := by decide +kernel
theorem dX0_traced_38 : decode cX0_traced 38 = .ok (.ireturn, 1) := by decide +kernel
theorem dX0_traced_39 : decode cX0_traced 39 = .ok (.aload_n 0, 1) := by decide +kernel
theorem dX0_traced_40 : decode cX0_traced 40 = .ok (.getfield 40, 3) := by decide +kernel
theorem dX0_traced_43 : decode cX0_traced 43 = .ok (.iload_n 3, 1) := by decide +kernel
theorem dX0_traced_44 : decode cX0_traced 44 = .ok (.baload, 1) := by decide +kernel
theorem dX0_traced_45 : decode cX0_traced 45 = .ok (.ireturn, 1) := by decide +kernel
theorem dX0_toAndFro_0 : decode cX0_toAndFro 0 = .ok (.aload_n 0, 1) := by decide +kernel
theorem dX0_toAndFro_1 : decode cX0_toAndFro 1 = .ok (.getfield 28, 3) := by decide +kernel
theorem dX0_toAndFro_4 : decode cX0_toAndFro 4 = .ok (.iload_n 1, 1) := by decide +kernel
theorem dX0_toAndFro_5 : decode cX0_toAndFro 5 = .ok (.iaload, 1) := by decide +kernel
theorem dX0_toAndFro_6 : decode cX0_toAndFro 6 = .ok (.bipush 40, 2) := by decide +kernel
theorem dX0_toAndFro_8 : decode cX0_toAndFro 8 = .ok (.invokestatic 54, 3) := by decide +kernel
theorem dX0_toAndFro_11 : decode cX0_toAndFro 11 = .ok (.istore_n 2, 1) := by decide +kernel
theorem dX0_toAndFro_12 : decode cX0_toAndFro 12 = .ok (.iconst 0, 1) := by decide +kernel
theorem dX0_toAndFro_13 : decode cX0_toAndFro 13 = .ok (.istore_n 3, 1) := by decide +kernel
theorem dX0_toAndFro_14 : decode cX0_toAndFro 14 = .ok (.iload_n 3, 1) := by decide +kernel
theorem dX0_toAndFro_15 : decode cX0_toAndFro 15 = .ok (.iconst 3, 1) := by decide +kernel
theorem dX0_toAndFro_16 : decode cX0_toAndFro 16 = .ok (.iadd, 1) := by decide +kernel
theorem dX0_toAndFro_17 : decode cX0_toAndFro 17 = .ok (.iload_n 2, 1) := by decide +kernel
theorem dX0_toAndFro_18 : decode cX0_toAndFro 18 = .ok (.if_icmp .ge 59, 3) := by decide +kernel
theorem dX0_toAndFro_21 : decode cX0_toAndFro 21 = .ok (.aload_n 0, 1) := by decide +kernel
theorem dX0_toAndFro_22 : decode cX0_toAndFro 22 = .ok (.iload_n 1, 1) := by decide +kernel
theorem dX0_toAndFro_23 : decode cX0_toAndFro 23 = .ok (.iload_n 3, 1) := by decide +kernel
theorem dX0_toAndFro_24 : decode cX0_toAndFro 24 = .ok (.invokevirtual 57, 3) := by decide +kernel
theorem dX0_toAndFro_27 : decode cX0_toAndFro 27 = .ok (.aload_n 0, 1) := by decide +kernel
theorem dX0_toAndFro_28 : decode cX0_toAndFro 28 = .ok (.iload_n 1, 1) := by decide +kernel
theorem dX0_toAndFro_29 : decode cX0_toAndFro 29 = .ok (.iload_n 3, 1) := by decide +kernel
theorem dX0_toAndFro_30 : decode cX0_toAndFro 30 = .ok (.iconst 2, 1) := by decide +kernel
theorem dX0_toAndFro_31 : decode cX0_toAndFro 31 = .ok (.iadd, 1) := by decide +kernel
theorem dX0_toAndFro_32 : decode cX0_toAndFro 32 = .ok (.invokevirtual 57, 3) := by decide +kernel
theorem dX0_toAndFro_35 : decode cX0_toAndFro 35 = .ok (.if_icmp .ne 7, 3) := by decide +kernel
theorem dX0_toAndFro_38 : decode cX0_toAndFro 38 = .ok (.iconst 1, 1) := by decide +kernel
theorem dX0_toAndFro_39 : decode cX0_toAndFro 39 = .ok (.goto 4, 3) := by decide +kernel
theorem dX0_toAndFro_42 : decode cX0_toAndFro 42 = .ok (.iconst 0, 1) := by decide +kernel
theorem dX0_toAndFro_43 : decode cX0_toAndFro 43 = .ok (.istore 4, 2) := by decide +kernel
theorem dX0_toAndFro_45 : decode cX0_toAndFro 45 = .ok (.iload 4, 2) := by decide +kernel
theorem dX0_toAndFro_47 : decode cX0_toAndFro 47 = .ok (.ifCond .eq 24, 3) := by decide +kernel
theorem dX0_toAndFro_50 : decode cX0_toAndFro 50 = .ok (.aload_n 0, 1) := by decide +kernel
theorem dX0_toAndFro_51 : decode cX0_toAndFro 51 = .ok (.iload_n 1, 1) := by decide +kernel
theorem dX0_toAndFro_52 : decode cX0_toAndFro 52 = .ok (.iload_n 3, 1) := by decide +kernel
theorem dX0_toAndFro_53 : decode cX0_toAndFro 53 = .ok (.iconst 1, 1) := by decide +kernel
theorem dX0_toAndFro_54 : decode cX0_toAndFro 54 = .ok (.iadd, 1) := by decide +kernel
theorem dX0_toAndFro_55 : decode cX0_toAndFro 55 = .ok (.invokevirtual 57, 3) := by decide +kernel
theorem dX0_toAndFro_58 : decode cX0_toAndFro 58 = .ok (.aload_n 0, 1) := by decide +kernel
theorem dX0_toAndFro_59 : decode cX0_toAndFro 59 = .ok (.iload_n 1, 1) := by decide +kernel
theorem dX0_toAndFro_60 : decode cX0_toAndFro 60 = .ok (.iload_n 3, 1) := by decide +kernel
theorem dX0_toAndFro_61 : decode cX0_toAndFro 61 = .ok (.iconst 3, 1) := by decide +kernel
theorem dX0_toAndFro_62 : decode cX0_toAndFro 62 = .ok (.iadd, 1) := by decide +kernel
theorem dX0_toAndFro_63 : decode cX0_toAndFro 63 = .ok (.invokevirtual 57, 3) := by decide +kernel
theorem dX0_toAndFro_66 : decode cX0_toAndFro 66 = .ok (.if_icmp .ne 5, 3) := by decide +kernel
theorem dX0_toAndFro_69 : decode cX0_toAndFro 69 = .ok (.iload_n 3, 1) := by decide +kernel
theorem dX0_toAndFro_70 : decode cX0_toAndFro 70 = .ok (.ireturn, 1) := by decide +kernel
theorem dX0_toAndFro_71 : decode cX0_toAndFro 71 = .ok (.iinc 3 1, 3) := by decide +kernel
theorem dX0_toAndFro_74 : decode cX0_toAndFro 74 = .ok (.goto (-60), 3) := by decide +kernel
theorem dX0_toAndFro_77 : decode cX0_toAndFro 77 = .ok (.bipush (-9), 2) := by decide +kernel
theorem dX0_toAndFro_79 : decode cX0_toAndFro 79 = .ok (.ireturn, 1) := by decide +kernel
theorem dX1_init_0 : decode cX1_init 0 = .ok (.aload_n 0, 1) := by decide +kernel
theorem dX1_init_1 : decode cX1_init 1 = .ok (.invokespecial 3, 3) := by decide +kernel
theorem dX1_init_4 : decode cX1_init 4 = .ok (.aload_n 0, 1) := by decide +kernel
theorem dX1_init_5 : decode cX1_init 5 = .ok (.bipush 60, 2) := by decide +kernel
theorem dX1_init_7 : decode cX1_init 7 = .ok (.newarray .int, 2) := by decide +kernel
theorem dX1_init_9 : decode cX1_init 9 = .ok (.putfield 9, 3) := by decide +kernel
theorem dX1_init_12 : decode cX1_init 12 = .ok (.aload_n 0, 1) := by decide +kernel
theorem dX1_init_13 : decode cX1_init 13 = .ok (.bipush 60, 2) := by decide +kernel
theorem dX1_init_15 : decode cX1_init 15 = .ok (.newarray .int, 2) := by decide +kernel
theorem dX1_init_17 : decode cX1_init 17 = .ok (.putfield 15, 3) := by decide +kernel
theorem dX1_init_20 : decode cX1_init 20 = .ok (.aload_n 0, 1) := by decide +kernel
theorem dX1_init_21 : decode cX1_init 21 = .ok (.bipush 60, 2) := by decide +kernel
theorem dX1_init_23 : decode cX1_init 23 = .ok (.newarray .int, 2) := by decide +kernel
theorem dX1_init_25 : decode cX1_init 25 = .ok (.putfield 18, 3) := by decide +kernel
theorem dX1_init_28 : decode cX1_init 28 = .ok (.aload_n 0, 1) := by decide +kernel
theorem dX1_init_29 : decode cX1_init 29 = .ok (.bipush 60, 2) := by decide +kernel
theorem dX1_init_31 : decode cX1_init 31 = .ok (.newarray .int, 2) := by decide +kernel
theorem dX1_init_33 : decode cX1_init 33 = .ok (.putfield 21, 3) := by decide +kernel
theorem dX1_init_36 : decode cX1_init 36 = .ok (.aload_n 0, 1) := by decide +kernel
theorem dX1_init_37 : decode cX1_init 37 = .ok (.bipush 60, 2) := by decide +kernel
theorem dX1_init_39 : decode cX1_init 39 = .ok (.newarray .int, 2) := by decide +kernel
theorem dX1_init_41 : decode cX1_init 41 = .ok (.putfield 24, 3) := by decide +kernel
theorem dX1_init_44 : decode cX1_init 44 = .ok (.return_, 1) := by decide +kernel
theorem dX1_has_0 : decode cX1_has 0 = .ok (.iload_n 1, 1) := by decide +kernel
theorem dX1_has_1 : decode cX1_has 1 = .ok (.ifCond .lt 15, 3) := by decide +kernel
theorem dX1_has_4 : decode cX1_has 4 = .ok (.iload_n 1, 1) := by decide +kernel
theorem dX1_has_5 : decode cX1_has 5 = .ok (.aload_n 0, 1) := by decide +kernel
theorem dX1_has_6 : decode cX1_has 6 = .ok (.getfield 27, 3) := by decide +kernel
theorem dX1_has_9 : decode cX1_has 9 = .ok (.if_icmp .ge 7, 3) := by decide +kernel
theorem dX1_has_12 : decode cX1_has 12 = .ok (.iconst 1, 1) := by decide +kernel
theorem dX1_has_13 : decode cX1_has 13 = .ok (.goto 4, 3) := by decide +kernel
theorem dX1_has_16 : decode cX1_has 16 = .ok (.iconst 0, 1) := by decide +kernel
theorem dX1_has_17 : decode cX1_has 17 = .ok (.ireturn, 1) := by decide +kernel
theorem dX1_add_0 : decode cX1_add 0 = .ok (.aload_n 0, 1) := by decide +kernel
theorem dX1_add_1 : decode cX1_add 1 = .ok (.getfield 9, 3) := by decide +kernel
theorem dX1_add_4 : decode cX1_add 4 = .ok (.aload_n 0, 1) := by decide +kernel
theorem dX1_add_5 : decode cX1_add 5 = .ok (.getfield 27, 3) := by decide +kernel
theorem dX1_add_8 : decode cX1_add 8 = .ok (.iload_n 1, 1) := by decide +kernel
theorem dX1_add_9 : decode cX1_add 9 = .ok (.iastore, 1) := by decide +kernel
theorem dX1_add_10 : decode cX1_add 10 = .ok (.aload_n 0, 1) := by decide +kernel
theorem dX1_add_11 : decode cX1_add 11 = .ok (.getfield 15, 3) := by decide +kernel
theorem dX1_add_14 : decode cX1_add 14 = .ok (.aload_n 0, 1) := by decide +kernel
theorem dX1_add_15 : decode cX1_add 15 = .ok (.getfield 27, 3) := by decide +kernel
theorem dX1_add_18 : decode cX1_add 18 = .ok (.iload_n 2, 1) := by decide +kernel
theorem dX1_add_19 : decode cX1_add 19 = .ok (.iastore, 1) := by decide +kernel
theorem dX1_add_20 : decode cX1_add 20 = .ok (.aload_n 0, 1) := by decide +kernel
theorem dX1_add_21 : decode cX1_add 21 = .ok (.getfield 18, 3) := by decide +kernel
theorem dX1_add_24 : decode cX1_add 24 = .ok (.aload_n 0, 1) := by decide +kernel
theorem dX1_add_25 : decode cX1_add 25 = .ok (.getfield 27, 3) := by decide +kernel
theorem dX1_add_28 : decode cX1_add 28 = .ok (.iload_n 3, 1) := by decide +kernel
theorem dX1_add_29 : decode cX1_add 29 = .ok (.iastore, 1) := by decide +kernel
theorem dX1_add_30 : decode cX1_add 30 = .ok (.aload_n 0, 1) := by decide +kernel
theorem dX1_add_31 : decode cX1_add 31 = .ok (.getfield 21, 3) := by decide +kernel
theorem dX1_add_34 : decode cX1_add 34 = .ok (.aload_n 0, 1) := by decide +kernel
theorem dX1_add_35 : decode cX1_add 35 = .ok (.getfield 27, 3) := by decide +kernel
theorem dX1_add_38 : decode cX1_add 38 = .ok (.iload 4, 2) := by decide +kernel
theorem dX1_add_40 : decode cX1_add 40 = .ok (.iastore, 1) := by decide +kernel
theorem dX1_add_41 : decode cX1_add 41 = .ok (.aload_n 0, 1) := by decide +kernel
theorem dX1_add_42 : decode cX1_add 42 = .ok (.getfield 24, 3) := by decide +kernel
theorem dX1_add_45 : decode cX1_add 45 = .ok (.aload_n 0, 1) := by decide +kernel
theorem dX1_add_46 : decode cX1_add 46 = .ok (.getfield 27, 3) := by decide +kernel
theorem dX1_add_49 : decode cX1_add 49 = .ok (.iload 5, 2) := by decide +kernel
theorem dX1_add_51 : decode cX1_add 51 = .ok (.iastore, 1) := by decide +kernel
theorem dX1_add_52 : decode cX1_add 52 = .ok (.aload_n 0, 1) := by decide +kernel
theorem dX1_add_53 : decode cX1_add 53 = .ok (.dup, 1) := by decide +kernel
theorem dX1_add_54 : decode cX1_add 54 = .ok (.getfield 27, 3) := by decide +kernel
theorem dX1_add_57 : decode cX1_add 57 = .ok (.iconst 1, 1) := by decide +kernel
theorem dX1_add_58 : decode cX1_add 58 = .ok (.iadd, 1) := by decide +kernel
theorem dX1_add_59 : decode cX1_add 59 = .ok (.putfield 27, 3) := by decide +kernel
theorem dX1_add_62 : decode cX1_add 62 = .ok (.aload_n 0, 1) := by decide +kernel
theorem dX1_add_63 : decode cX1_add 63 = .ok (.getfield 27, 3) := by decide +kernel
theorem dX1_add_66 : decode cX1_add 66 = .ok (.iconst 1, 1) := by decide +kernel
theorem dX1_add_67 : decode cX1_add 67 = .ok (.isub, 1) := by decide +kernel
theorem dX1_add_68 : decode cX1_add 68 = .ok (.ireturn, 1) := by decide +kernel
theorem dX2_init_0 : decode cX2_init 0 = .ok (.aload_n 0, 1) := by decide +kernel
theorem dX2_init_1 : decode cX2_init 1 = .ok (.invokespecial 3, 3) := by decide +kernel
theorem dX2_init_4 : decode cX2_init 4 = .ok (.aload_n 0, 1) := by decide +kernel
theorem dX2_init_5 : decode cX2_init 5 = .ok (.bipush 12, 2) := by decide +kernel
theorem dX2_init_7 : decode cX2_init 7 = .ok (.newarray .int, 2) := by decide +kernel
theorem dX2_init_9 : decode cX2_init 9 = .ok (.putfield 9, 3) := by decide +kernel
theorem dX2_init_12 : decode cX2_init 12 = .ok (.aload_n 0, 1) := by decide +kernel
theorem dX2_init_13 : decode cX2_init 13 = .ok (.bipush 12, 2) := by decide +kernel
theorem dX2_init_15 : decode cX2_init 15 = .ok (.newarray .boolean, 2) := by decide +kernel
theorem dX2_init_17 : decode cX2_init 17 = .ok (.putfield 15, 3) := by decide +kernel
theorem dX2_init_20 : decode cX2_init 20 = .ok (.aload_n 0, 1) := by decide +kernel
theorem dX2_init_21 : decode cX2_init 21 = .ok (.sipush 144, 3) := by decide +kernel
theorem dX2_init_24 : decode cX2_init 24 = .ok (.newarray .int, 2) := by decide +kernel
theorem dX2_init_26 : decode cX2_init 26 = .ok (.putfield 19, 3) := by decide +kernel
theorem dX2_init_29 : decode cX2_init 29 = .ok (.aload_n 0, 1) := by decide +kernel
theorem dX2_init_30 : decode cX2_init 30 = .ok (.bipush 24, 2) := by decide +kernel
theorem dX2_init_32 : decode cX2_init 32 = .ok (.newarray .int, 2) := by decide +kernel
theorem dX2_init_34 : decode cX2_init 34 = .ok (.putfield 22, 3) := by decide +kernel
theorem dX2_init_37 : decode cX2_init 37 = .ok (.aload_n 0, 1) := by decide +kernel
theorem dX2_init_38 : decode cX2_init 38 = .ok (.bipush 24, 2) := by decide +kernel
theorem dX2_init_40 : decode cX2_init 40 = .ok (.newarray .int, 2) := by decide +kernel
theorem dX2_init_42 : decode cX2_init 42 = .ok (.putfield 25, 3) := by decide +kernel
theorem dX2_init_45 : decode cX2_init 45 = .ok (.aload_n 0, 1) := by decide +kernel
theorem dX2_init_46 : decode cX2_init 46 = .ok (.bipush 24, 2) := by decide +kernel
theorem dX2_init_48 : decode cX2_init 48 = .ok (.newarray .int, 2) := by decide +kernel
theorem dX2_init_50 : decode cX2_init 50 = .ok (.putfield 28, 3) := by decide +kernel
theorem dX2_init_53 : decode cX2_init 53 = .ok (.aload_n 0, 1) := by decide +kernel
theorem dX2_init_54 : decode cX2_init 54 = .ok (.bipush 24, 2) := by decide +kernel
theorem dX2_init_56 : decode cX2_init 56 = .ok (.newarray .int, 2) := by decide +kernel
theorem dX2_init_58 : decode cX2_init 58 = .ok (.putfield 31, 3) := by decide +kernel
theorem dX2_init_61 : decode cX2_init 61 = .ok (.aload_n 0, 1) := by decide +kernel
theorem dX2_init_62 : decode cX2_init 62 = .ok (.bipush 24, 2) := by decide +kernel
theorem dX2_init_64 : decode cX2_init 64 = .ok (.newarray .int, 2) := by decide +kernel
theorem dX2_init_66 : decode cX2_init 66 = .ok (.putfield 34, 3) := by decide +kernel
theorem dX2_init_69 : decode cX2_init 69 = .ok (.aload_n 0, 1) := by decide +kernel
theorem dX2_init_70 : decode cX2_init 70 = .ok (.bipush 40, 2) := by decide +kernel
theorem dX2_init_72 : decode cX2_init 72 = .ok (.newarray .int, 2) := by decide +kernel
theorem dX2_init_74 : decode cX2_init 74 = .ok (.putfield 37, 3) := by decide +kernel
theorem dX2_init_77 : decode cX2_init 77 = .ok (.aload_n 0, 1) := by decide +kernel
theorem dX2_init_78 : decode cX2_init 78 = .ok (.bipush 40, 2) := by decide +kernel
theorem dX2_init_80 : decode cX2_init 80 = .ok (.newarray .int, 2) := by decide +kernel
theorem dX2_init_82 : decode cX2_init 82 = .ok (.putfield 40, 3) := by decide +kernel
theorem dX2_init_85 : decode cX2_init 85 = .ok (.aload_n 0, 1) := by decide +kernel
theorem dX2_init_86 : decode cX2_init 86 = .ok (.bipush 40, 2) := by decide +kernel
theorem dX2_init_88 : decode cX2_init 88 = .ok (.newarray .int, 2) := by decide +kernel
theorem dX2_init_90 : decode cX2_init 90 = .ok (.putfield 43, 3) := by decide +kernel
theorem dX2_init_93 : decode cX2_init 93 = .ok (.aload_n 0, 1) := by decide +kernel
theorem dX2_init_94 : decode cX2_init 94 = .ok (.getfield 19, 3) := by decide +kernel
theorem dX2_init_97 : decode cX2_init 97 = .ok (.ldc 46, 2) := by decide +kernel
theorem dX2_init_99 : decode cX2_init 99 = .ok (.invokestatic 47, 3) := by decide +kernel
theorem dX2_init_102 : decode cX2_init 102 = .ok (.iconst 0, 1) := by decide +kernel
theorem dX2_init_103 : decode cX2_init 103 = .ok (.istore_n 1, 1) := by decide +kernel
theorem dX2_init_104 : decode cX2_init 104 = .ok (.iload_n 1, 1) := by decide +kernel
theorem dX2_init_105 : decode cX2_init 105 = .ok (.bipush 12, 2) := by decide +kernel
theorem dX2_init_107 : decode cX2_init 107 = .ok (.if_icmp .ge 21, 3) := by decide +kernel
theorem dX2_init_110 : decode cX2_init 110 = .ok (.aload_n 0, 1) := by decide +kernel
theorem dX2_init_111 : decode cX2_init 111 = .ok (.getfield 19, 3) := by decide +kernel
theorem dX2_init_114 : decode cX2_init 114 = .ok (.iload_n 1, 1) := by decide +kernel
theorem dX2_init_115 : decode cX2_init 115 = .ok (.bipush 12, 2) := by decide +kernel
theorem dX2_init_117 : decode cX2_init 117 = .ok (.imul, 1) := by decide +kernel
theorem dX2_init_118 : decode cX2_init 118 = .ok (.iload_n 1, 1) := by decide +kernel
theorem dX2_init_119 : decode cX2_init 119 = .ok (.iadd, 1) := by decide +kernel
theorem dX2_init_120 : decode cX2_init 120 = .ok (.iconst 0, 1) := by decide +kernel
theorem dX2_init_121 : decode cX2_init 121 = .ok (.iastore, 1) := by decide +kernel
theorem dX2_init_122 : decode cX2_init 122 = .ok (.iinc 1 1, 3) := by decide +kernel
theorem dX2_init_125 : decode cX2_init 125 = .ok (.goto (-21), 3) := by decide +kernel
theorem dX2_init_128 : decode cX2_init 128 = .ok (.return_, 1) := by decide +kernel
theorem dX2_hasOffice_0 : decode cX2_hasOffice 0 = .ok (.iload_n 1, 1) := by decide +kernel
theorem dX2_hasOffice_1 : decode cX2_hasOffice 1 = .ok (.ifCond .lt 15, 3) := by decide +kernel
theorem dX2_hasOffice_4 : decode cX2_hasOffice 4 = .ok (.iload_n 1, 1) := by decide +kernel
theorem dX2_hasOffice_5 : decode cX2_hasOffice 5 = .ok (.aload_n 0, 1) := by decide +kernel
theorem dX2_hasOffice_6 : decode cX2_hasOffice 6 = .ok (.getfield 53, 3) := by decide +kernel
theorem dX2_hasOffice_9 : decode cX2_hasOffice 9 = .ok (.if_icmp .ge 7, 3) := by decide +kernel
theorem dX2_hasOffice_12 : decode cX2_hasOffice 12 = .ok (.iconst 1, 1) := by decide +kernel
theorem dX2_hasOffice_13 : decode cX2_hasOffice 13 = .ok (.goto 4, 3) := by decide +kernel
theorem dX2_hasOffice_16 : decode cX2_hasOffice 16 = .ok (.iconst 0, 1) := by decide +kernel
theorem dX2_hasOffice_17 : decode cX2_hasOffice 17 = .ok (.ireturn, 1) := by decide +kernel
theorem dX2_hasWay_0 : decode cX2_hasWay 0 = .ok (.iload_n 1, 1) := by decide +kernel
theorem dX2_hasWay_1 : decode cX2_hasWay 1 = .ok (.ifCond .lt 15, 3) := by decide +kernel
theorem dX2_hasWay_4 : decode cX2_hasWay 4 = .ok (.iload_n 1, 1) := by decide +kernel
theorem dX2_hasWay_5 : decode cX2_hasWay 5 = .ok (.aload_n 0, 1) := by decide +kernel
theorem dX2_hasWay_6 : decode cX2_hasWay 6 = .ok (.getfield 57, 3) := by decide +kernel
theorem dX2_hasWay_9 : decode cX2_hasWay 9 = .ok (.if_icmp .ge 7, 3) := by decide +kernel
theorem dX2_hasWay_12 : decode cX2_hasWay 12 = .ok (.iconst 1, 1) := by decide +kernel
theorem dX2_hasWay_13 : decode cX2_hasWay 13 = .ok (.goto 4, 3) := by decide +kernel
theorem dX2_hasWay_16 : decode cX2_hasWay 16 = .ok (.iconst 0, 1) := by decide +kernel
theorem dX2_hasWay_17 : decode cX2_hasWay 17 = .ok (.ireturn, 1) := by decide +kernel
theorem dX2_addOffice_0 : decode cX2_addOffice 0 = .ok (.aload_n 0, 1) := by decide +kernel
theorem dX2_addOffice_1 : decode cX2_addOffice 1 = .ok (.getfield 9, 3) := by decide +kernel
theorem dX2_addOffice_4 : decode cX2_addOffice 4 = .ok (.aload_n 0, 1) := by decide +kernel
theorem dX2_addOffice_5 : decode cX2_addOffice 5 = .ok (.getfield 53, 3) := by decide +kernel
theorem dX2_addOffice_8 : decode cX2_addOffice 8 = .ok (.iload_n 1, 1) := by decide +kernel
theorem dX2_addOffice_9 : decode cX2_addOffice 9 = .ok (.iastore, 1) := by decide +kernel
theorem dX2_addOffice_10 : decode cX2_addOffice 10 = .ok (.aload_n 0, 1) := by decide +kernel
theorem dX2_addOffice_11 : decode cX2_addOffice 11 = .ok (.getfield 15, 3) := by decide +kernel
theorem dX2_addOffice_14 : decode cX2_addOffice 14 = .ok (.aload_n 0, 1) := by decide +kernel
theorem dX2_addOffice_15 : decode cX2_addOffice 15 = .ok (.getfield 53, 3) := by decide +kernel
theorem dX2_addOffice_18 : decode cX2_addOffice 18 = .ok (.iload_n 2, 1) := by decide +kernel
theorem dX2_addOffice_19 : decode cX2_addOffice 19 = .ok (.bastore, 1) := by decide +kernel
theorem dX2_addOffice_20 : decode cX2_addOffice 20 = .ok (.aload_n 0, 1) := by decide +kernel
theorem dX2_addOffice_21 : decode cX2_addOffice 21 = .ok (.dup, 1) := by decide +kernel
theorem dX2_addOffice_22 : decode cX2_addOffice 22 = .ok (.getfield 53, 3) := by decide +kernel
theorem dX2_addOffice_25 : decode cX2_addOffice 25 = .ok (.iconst 1, 1) := by decide +kernel
theorem dX2_addOffice_26 : decode cX2_addOffice 26 = .ok (.iadd, 1) := by decide +kernel
theorem dX2_addOffice_27 : decode cX2_addOffice 27 = .ok (.putfield 53, 3) := by decide +kernel
theorem dX2_addOffice_30 : decode cX2_addOffice 30 = .ok (.aload_n 0, 1) := by decide +kernel
theorem dX2_addOffice_31 : decode cX2_addOffice 31 = .ok (.getfield 53, 3) := by decide +kernel
theorem dX2_addOffice_34 : decode cX2_addOffice 34 = .ok (.iconst 1, 1) := by decide +kernel
theorem dX2_addOffice_35 : decode cX2_addOffice 35 = .ok (.isub, 1) := by decide +kernel
theorem dX2_addOffice_36 : decode cX2_addOffice 36 = .ok (.ireturn, 1) := by decide +kernel
theorem dX2_setOffice_0 : decode cX2_setOffice 0 = .ok (.aload_n 0, 1) := by decide +kernel
theorem dX2_setOffice_1 : decode cX2_setOffice 1 = .ok (.getfield 9, 3) := by decide +kernel
theorem dX2_setOffice_4 : decode cX2_setOffice 4 = .ok (.iload_n 1, 1) := by decide +kernel
theorem dX2_setOffice_5 : decode cX2_setOffice 5 = .ok (.iaload, 1) := by decide +kernel
theorem dX2_setOffice_6 : decode cX2_setOffice 6 = .ok (.istore 4, 2) := by decide +kernel
theorem dX2_setOffice_8 : decode cX2_setOffice 8 = .ok (.aload_n 0, 1) := by decide +kernel
theorem dX2_setOffice_9 : decode cX2_setOffice 9 = .ok (.getfield 9, 3) := by decide +kernel
theorem dX2_setOffice_12 : decode cX2_setOffice 12 = .ok (.iload_n 1, 1) := by decide +kernel
theorem dX2_setOffice_13 : decode cX2_setOffice 13 = .ok (.iload_n 2, 1) := by decide +kernel
theorem dX2_setOffice_14 : decode cX2_setOffice 14 = .ok (.iastore, 1) := by decide +kernel
theorem dX2_setOffice_15 : decode cX2_setOffice 15 = .ok (.aload_n 0, 1) := by decide +kernel
theorem dX2_setOffice_16 : decode cX2_setOffice 16 = .ok (.getfield 15, 3) := by decide +kernel
theorem dX2_setOffice_19 : decode cX2_setOffice 19 = .ok (.iload_n 1, 1) := by decide +kernel
theorem dX2_setOffice_20 : decode cX2_setOffice 20 = .ok (.iload_n 3, 1) := by decide +kernel
theorem dX2_setOffice_21 : decode cX2_setOffice 21 = .ok (.bastore, 1) := by decide +kernel
theorem dX2_setOffice_22 : decode cX2_setOffice 22 = .ok (.iload 4, 2) := by decide +kernel
theorem dX2_setOffice_24 : decode cX2_setOffice 24 = .ok (.ireturn, 1) := by decide +kernel
theorem dX2_addWay_0 : decode cX2_addWay 0 = .ok (.aload_n 0, 1) := by decide +kernel
theorem dX2_addWay_1 : decode cX2_addWay 1 = .ok (.getfield 22, 3) := by decide +kernel
theorem dX2_addWay_4 : decode cX2_addWay 4 = .ok (.aload_n 0, 1) := by decide +kernel
theorem dX2_addWay_5 : decode cX2_addWay 5 = .ok (.getfield 57, 3) := by decide +kernel
theorem dX2_addWay_8 : decode cX2_addWay 8 = .ok (.iload_n 1, 1) := by decide +kernel
theorem dX2_addWay_9 : decode cX2_addWay 9 = .ok (.iastore, 1) := by decide +kernel
theorem dX2_addWay_10 : decode cX2_addWay 10 = .ok (.aload_n 0, 1) := by decide +kernel
theorem dX2_addWay_11 : decode cX2_addWay 11 = .ok (.getfield 25, 3) := by decide +kernel
theorem dX2_addWay_14 : decode cX2_addWay 14 = .ok (.aload_n 0, 1) := by decide +kernel
theorem dX2_addWay_15 : decode cX2_addWay 15 = .ok (.getfield 57, 3) := by decide +kernel
theorem dX2_addWay_18 : decode cX2_addWay 18 = .ok (.iload_n 2, 1) := by decide +kernel
theorem dX2_addWay_19 : decode cX2_addWay 19 = .ok (.iastore, 1) := by decide +kernel
theorem dX2_addWay_20 : decode cX2_addWay 20 = .ok (.aload_n 0, 1) := by decide +kernel
theorem dX2_addWay_21 : decode cX2_addWay 21 = .ok (.getfield 28, 3) := by decide +kernel
theorem dX2_addWay_24 : decode cX2_addWay 24 = .ok (.aload_n 0, 1) := by decide +kernel
theorem dX2_addWay_25 : decode cX2_addWay 25 = .ok (.getfield 57, 3) := by decide +kernel
theorem dX2_addWay_28 : decode cX2_addWay 28 = .ok (.iload_n 3, 1) := by decide +kernel
theorem dX2_addWay_29 : decode cX2_addWay 29 = .ok (.iastore, 1) := by decide +kernel
theorem dX2_addWay_30 : decode cX2_addWay 30 = .ok (.aload_n 0, 1) := by decide +kernel
theorem dX2_addWay_31 : decode cX2_addWay 31 = .ok (.getfield 31, 3) := by decide +kernel
theorem dX2_addWay_34 : decode cX2_addWay 34 = .ok (.aload_n 0, 1) := by decide +kernel
theorem dX2_addWay_35 : decode cX2_addWay 35 = .ok (.getfield 57, 3) := by decide +kernel
theorem dX2_addWay_38 : decode cX2_addWay 38 = .ok (.iload 4, 2) := by decide +kernel
theorem dX2_addWay_40 : decode cX2_addWay 40 = .ok (.iastore, 1) := by decide +kernel
theorem dX2_addWay_41 : decode cX2_addWay 41 = .ok (.aload_n 0, 1) := by decide +kernel
theorem dX2_addWay_42 : decode cX2_addWay 42 = .ok (.getfield 34, 3) := by decide +kernel
theorem dX2_addWay_45 : decode cX2_addWay 45 = .ok (.aload_n 0, 1) := by decide +kernel
theorem dX2_addWay_46 : decode cX2_addWay 46 = .ok (.getfield 57, 3) := by decide +kernel
theorem dX2_addWay_49 : decode cX2_addWay 49 = .ok (.iload 5, 2) := by decide +kernel
theorem dX2_addWay_51 : decode cX2_addWay 51 = .ok (.iastore, 1) := by decide +kernel
theorem dX2_addWay_52 : decode cX2_addWay 52 = .ok (.aload_n 0, 1) := by decide +kernel
theorem dX2_addWay_53 : decode cX2_addWay 53 = .ok (.dup, 1) := by decide +kernel
theorem dX2_addWay_54 : decode cX2_addWay 54 = .ok (.getfield 57, 3) := by decide +kernel
theorem dX2_addWay_57 : decode cX2_addWay 57 = .ok (.iconst 1, 1) := by decide +kernel
theorem dX2_addWay_58 : decode cX2_addWay 58 = .ok (.iadd, 1) := by decide +kernel
theorem dX2_addWay_59 : decode cX2_addWay 59 = .ok (.putfield 57, 3) := by decide +kernel
theorem dX2_addWay_62 : decode cX2_addWay 62 = .ok (.aload_n 0, 1) := by decide +kernel
theorem dX2_addWay_63 : decode cX2_addWay 63 = .ok (.iload_n 1, 1) := by decide +kernel
theorem dX2_addWay_64 : decode cX2_addWay 64 = .ok (.iload_n 2, 1) := by decide +kernel
theorem dX2_addWay_65 : decode cX2_addWay 65 = .ok (.iload_n 3, 1) := by decide +kernel
theorem dX2_addWay_66 : decode cX2_addWay 66 = .ok (.invokevirtual 60, 3) := by decide +kernel
theorem dX2_addWay_69 : decode cX2_addWay 69 = .ok (.aload_n 0, 1) := by decide +kernel
theorem dX2_addWay_70 : decode cX2_addWay 70 = .ok (.getfield 57, 3) := by decide +kernel
theorem dX2_addWay_73 : decode cX2_addWay 73 = .ok (.iconst 1, 1) := by decide +kernel
theorem dX2_addWay_74 : decode cX2_addWay 74 = .ok (.isub, 1) := by decide +kernel
theorem dX2_addWay_75 : decode cX2_addWay 75 = .ok (.ireturn, 1) := by decide +kernel
theorem dX2_shorten_0 : decode cX2_shorten 0 = .ok (.iconst 0, 1) := by decide +kernel
theorem dX2_shorten_1 : decode cX2_shorten 1 = .ok (.istore 4, 2) := by decide +kernel
theorem dX2_shorten_3 : decode cX2_shorten 3 = .ok (.iload 4, 2) := by decide +kernel
theorem dX2_shorten_5 : decode cX2_shorten 5 = .ok (.aload_n 0, 1) := by decide +kernel
theorem dX2_shorten_6 : decode cX2_shorten 6 = .ok (.getfield 53, 3) := by decide +kernel
theorem dX2_shorten_9 : decode cX2_shorten 9 = .ok (.if_icmp .ge 102, 3) := by decide +kernel
theorem dX2_shorten_12 : decode cX2_shorten 12 = .ok (.iconst 0, 1) := by decide +kernel
theorem dX2_shorten_13 : decode cX2_shorten 13 = .ok (.istore 5, 2) := by decide +kernel
theorem dX2_shorten_15 : decode cX2_shorten 15 = .ok (.iload 5, 2) := by decide +kernel
theorem dX2_shorten_17 : decode cX2_shorten 17 = .ok (.aload_n 0, 1) := by decide +kernel
theorem dX2_shorten_18 : decode cX2_shorten 18 = .ok (.getfield 53, 3) := by decide +kernel
theorem dX2_shorten_21 : decode cX2_shorten 21 = .ok (.if_icmp .ge 84, 3) := by decide +kernel
theorem dX2_shorten_24 : decode cX2_shorten 24 = .ok (.aload_n 0, 1) := by decide +kernel
theorem dX2_shorten_25 : decode cX2_shorten 25 = .ok (.iload 4, 2) := by decide +kernel
theorem dX2_shorten_27 : decode cX2_shorten 27 = .ok (.iload_n 1, 1) := by decide +kernel
theorem dX2_shorten_28 : decode cX2_shorten 28 = .ok (.invokevirtual 64, 3) := by decide +kernel
theorem dX2_shorten_31 : decode cX2_shorten 31 = .ok (.iload_n 3, 1) := by decide +kernel
theorem dX2_shorten_32 : decode cX2_shorten 32 = .ok (.iadd, 1) := by decide +kernel
theorem dX2_shorten_33 : decode cX2_shorten 33 = .ok (.aload_n 0, 1) := by decide +kernel
theorem dX2_shorten_34 : decode cX2_shorten 34 = .ok (.iload_n 2, 1) := by decide +kernel
theorem dX2_shorten_35 : decode cX2_shorten 35 = .ok (.iload 5, 2) := by decide +kernel
theorem dX2_shorten_37 : decode cX2_shorten 37 = .ok (.invokevirtual 64, 3) := by decide +kernel
theorem dX2_shorten_40 : decode cX2_shorten 40 = .ok (.iadd, 1) := by decide +kernel
theorem dX2_shorten_41 : decode cX2_shorten 41 = .ok (.istore 6, 2) := by decide +kernel
theorem dX2_shorten_43 : decode cX2_shorten 43 = .ok (.aload_n 0, 1) := by decide +kernel
theorem dX2_shorten_44 : decode cX2_shorten 44 = .ok (.iload 4, 2) := by decide +kernel
theorem dX2_shorten_46 : decode cX2_shorten 46 = .ok (.iload_n 2, 1) := by decide +kernel
theorem dX2_shorten_47 : decode cX2_shorten 47 = .ok (.invokevirtual 64, 3) := by decide +kernel
theorem dX2_shorten_50 : decode cX2_shorten 50 = .ok (.iload_n 3, 1) := by decide +kernel
theorem dX2_shorten_51 : decode cX2_shorten 51 = .ok (.iadd, 1) := by decide +kernel
theorem dX2_shorten_52 : decode cX2_shorten 52 = .ok (.aload_n 0, 1) := by decide +kernel
theorem dX2_shorten_53 : decode cX2_shorten 53 = .ok (.iload_n 1, 1) := by decide +kernel
theorem dX2_shorten_54 : decode cX2_shorten 54 = .ok (.iload 5, 2) := by decide +kernel
theorem dX2_shorten_56 : decode cX2_shorten 56 = .ok (.invokevirtual 64, 3) := by decide +kernel
theorem dX2_shorten_59 : decode cX2_shorten 59 = .ok (.iadd, 1) := by decide +kernel
theorem dX2_shorten_60 : decode cX2_shorten 60 = .ok (.istore 7, 2) := by decide +kernel
theorem dX2_shorten_62 : decode cX2_shorten 62 = .ok (.iload 6, 2) := by decide +kernel
theorem dX2_shorten_64 : decode cX2_shorten 64 = .ok (.iload 7, 2) := by decide +kernel
theorem dX2_shorten_66 : decode cX2_shorten 66 = .ok (.invokestatic 68, 3) := by decide +kernel
theorem dX2_shorten_69 : decode cX2_shorten 69 = .ok (.istore 8, 2) := by decide +kernel
theorem dX2_shorten_71 : decode cX2_shorten 71 = .ok (.iload 8, 2) := by decide +kernel
theorem dX2_shorten_73 : decode cX2_shorten 73 = .ok (.aload_n 0, 1) := by decide +kernel
theorem dX2_shorten_74 : decode cX2_shorten 74 = .ok (.iload 4, 2) := by decide +kernel
theorem dX2_shorten_76 : decode cX2_shorten 76 = .ok (.iload 5, 2) := by decide +kernel
theorem dX2_shorten_78 : decode cX2_shorten 78 = .ok (.invokevirtual 64, 3) := by decide +kernel
theorem dX2_shorten_81 : decode cX2_shorten 81 = .ok (.if_icmp .ge 18, 3) := by decide +kernel
theorem dX2_shorten_84 : decode cX2_shorten 84 = .ok (.aload_n 0, 1) := by decide +kernel
theorem dX2_shorten_85 : decode cX2_shorten 85 = .ok (.getfield 19, 3) := by decide +kernel
theorem dX2_shorten_88 : decode cX2_shorten 88 = .ok (.iload 4, 2) := by decide +kernel
theorem dX2_shorten_90 : decode cX2_shorten 90 = .ok (.bipush 12, 2) := by decide +kernel
theorem dX2_shorten_92 : decode cX2_shorten 92 = .ok (.imul, 1) := by decide +kernel
theorem dX2_shorten_93 : decode cX2_shorten 93 = .ok (.iload 5, 2) := by decide +kernel
theorem dX2_shorten_95 : decode cX2_shorten 95 = .ok (.iadd, 1) := by decide +kernel
theorem dX2_shorten_96 : decode cX2_shorten 96 = .ok (.iload 8, 2) := by decide +kernel
theorem dX2_shorten_98 : decode cX2_shorten 98 = .ok (.iastore, 1) := by decide +kernel
theorem dX2_shorten_99 : decode cX2_shorten 99 = .ok (.iinc 5 1, 3) := by decide +kernel
theorem dX2_shorten_102 : decode cX2_shorten 102 = .ok (.goto (-87), 3) := by decide +kernel
theorem dX2_shorten_105 : decode cX2_shorten 105 = .ok (.iinc 4 1, 3) := by decide +kernel
theorem dX2_shorten_108 : decode cX2_shorten 108 = .ok (.goto (-105), 3) := by decide +kernel
theorem dX2_shorten_111 : decode cX2_shorten 111 = .ok (.return_, 1) := by decide +kernel
theorem dX2_addShut_0 : decode cX2_addShut 0 = .ok (.aload_n 0, 1) := by decide +kernel
theorem dX2_addShut_1 : decode cX2_addShut 1 = .ok (.getfield 37, 3) := by decide +kernel
theorem dX2_addShut_4 : decode cX2_addShut 4 = .ok (.aload_n 0, 1) := by decide +kernel
theorem dX2_addShut_5 : decode cX2_addShut 5 = .ok (.getfield 73, 3) := by decide +kernel
theorem dX2_addShut_8 : decode cX2_addShut 8 = .ok (.iload_n 1, 1) := by decide +kernel
theorem dX2_addShut_9 : decode cX2_addShut 9 = .ok (.iastore, 1) := by decide +kernel
theorem dX2_addShut_10 : decode cX2_addShut 10 = .ok (.aload_n 0, 1) := by decide +kernel
theorem dX2_addShut_11 : decode cX2_addShut 11 = .ok (.getfield 40, 3) := by decide +kernel
theorem dX2_addShut_14 : decode cX2_addShut 14 = .ok (.aload_n 0, 1) := by decide +kernel
theorem dX2_addShut_15 : decode cX2_addShut 15 = .ok (.getfield 73, 3) := by decide +kernel
theorem dX2_addShut_18 : decode cX2_addShut 18 = .ok (.iload_n 2, 1) := by decide +kernel
theorem dX2_addShut_19 : decode cX2_addShut 19 = .ok (.iastore, 1) := by decide +kernel
theorem dX2_addShut_20 : decode cX2_addShut 20 = .ok (.aload_n 0, 1) := by decide +kernel
theorem dX2_addShut_21 : decode cX2_addShut 21 = .ok (.getfield 43, 3) := by decide +kernel
theorem dX2_addShut_24 : decode cX2_addShut 24 = .ok (.aload_n 0, 1) := by decide +kernel
theorem dX2_addShut_25 : decode cX2_addShut 25 = .ok (.getfield 73, 3) := by decide +kernel
theorem dX2_addShut_28 : decode cX2_addShut 28 = .ok (.iload_n 3, 1) := by decide +kernel
theorem dX2_addShut_29 : decode cX2_addShut 29 = .ok (.iastore, 1) := by decide +kernel
theorem dX2_addShut_30 : decode cX2_addShut 30 = .ok (.aload_n 0, 1) := by decide +kernel
theorem dX2_addShut_31 : decode cX2_addShut 31 = .ok (.dup, 1) := by decide +kernel
theorem dX2_addShut_32 : decode cX2_addShut 32 = .ok (.getfield 73, 3) := by decide +kernel
theorem dX2_addShut_35 : decode cX2_addShut 35 = .ok (.iconst 1, 1) := by decide +kernel
theorem dX2_addShut_36 : decode cX2_addShut 36 = .ok (.iadd, 1) := by decide +kernel
theorem dX2_addShut_37 : decode cX2_addShut 37 = .ok (.putfield 73, 3) := by decide +kernel
theorem dX2_addShut_40 : decode cX2_addShut 40 = .ok (.aload_n 0, 1) := by decide +kernel
theorem dX2_addShut_41 : decode cX2_addShut 41 = .ok (.getfield 73, 3) := by decide +kernel
theorem dX2_addShut_44 : decode cX2_addShut 44 = .ok (.ireturn, 1) := by decide +kernel
theorem dX2_farBetween_0 : decode cX2_farBetween 0 = .ok (.aload_n 0, 1) := by decide +kernel
theorem dX2_farBetween_1 : decode cX2_farBetween 1 = .ok (.getfield 19, 3) := by decide +kernel
theorem dX2_farBetween_4 : decode cX2_farBetween 4 = .ok (.iload_n 1, 1) := by decide +kernel
theorem dX2_farBetween_5 : decode cX2_farBetween 5 = .ok (.bipush 12, 2) := by decide +kernel
theorem dX2_farBetween_7 : decode cX2_farBetween 7 = .ok (.imul, 1) := by decide +kernel
theorem dX2_farBetween_8 : decode cX2_farBetween 8 = .ok (.iload_n 2, 1) := by decide +kernel
theorem dX2_farBetween_9 : decode cX2_farBetween 9 = .ok (.iadd, 1) := by decide +kernel
theorem dX2_farBetween_10 : decode cX2_farBetween 10 = .ok (.iaload, 1) := by decide +kernel
theorem dX2_farBetween_11 : decode cX2_farBetween 11 = .ok (.ireturn, 1) := by decide +kernel
theorem dX2_lateAt_0 : decode cX2_lateAt 0 = .ok (.aload_n 0, 1) := by decide +kernel
theorem dX2_lateAt_1 : decode cX2_lateAt 1 = .ok (.getfield 15, 3) := by decide +kernel
theorem dX2_lateAt_4 : decode cX2_lateAt 4 = .ok (.iload_n 1, 1) := by decide +kernel
theorem dX2_lateAt_5 : decode cX2_lateAt 5 = .ok (.baload, 1) := by decide +kernel
theorem dX2_lateAt_6 : decode cX2_lateAt 6 = .ok (.ifCond .eq 7, 3) := by decide +kernel
theorem dX2_lateAt_9 : decode cX2_lateAt 9 = .ok (.iconst 0, 1) := by decide +kernel
theorem dX2_lateAt_10 : decode cX2_lateAt 10 = .ok (.goto 9, 3) := by decide +kernel
theorem dX2_lateAt_13 : decode cX2_lateAt 13 = .ok (.aload_n 0, 1) := by decide +kernel
theorem dX2_lateAt_14 : decode cX2_lateAt 14 = .ok (.iconst 0, 1) := by decide +kernel
theorem dX2_lateAt_15 : decode cX2_lateAt 15 = .ok (.iload_n 1, 1) := by decide +kernel
theorem dX2_lateAt_16 : decode cX2_lateAt 16 = .ok (.invokevirtual 64, 3) := by decide +kernel
theorem dX2_lateAt_19 : decode cX2_lateAt 19 = .ok (.ireturn, 1) := by decide +kernel
theorem dX2_leaves_0 : decode cX2_leaves 0 = .ok (.aload_n 0, 1) := by decide +kernel
theorem dX2_leaves_1 : decode cX2_leaves 1 = .ok (.getfield 34, 3) := by decide +kernel
theorem dX2_leaves_4 : decode cX2_leaves 4 = .ok (.iload_n 1, 1) := by decide +kernel
theorem dX2_leaves_5 : decode cX2_leaves 5 = .ok (.iaload, 1) := by decide +kernel
theorem dX2_leaves_6 : decode cX2_leaves 6 = .ok (.istore_n 3, 1) := by decide +kernel
theorem dX2_leaves_7 : decode cX2_leaves 7 = .ok (.iload_n 3, 1) := by decide +kernel
theorem dX2_leaves_8 : decode cX2_leaves 8 = .ok (.iconst 1, 1) := by decide +kernel
theorem dX2_leaves_9 : decode cX2_leaves 9 = .ok (.if_icmp .lt 26, 3) := by decide +kernel
theorem dX2_leaves_12 : decode cX2_leaves 12 = .ok (.iload_n 2, 1) := by decide +kernel
theorem dX2_leaves_13 : decode cX2_leaves 13 = .ok (.aload_n 0, 1) := by decide +kernel
theorem dX2_leaves_14 : decode cX2_leaves 14 = .ok (.getfield 31, 3) := by decide +kernel
theorem dX2_leaves_17 : decode cX2_leaves 17 = .ok (.iload_n 1, 1) := by decide +kernel
theorem dX2_leaves_18 : decode cX2_leaves 18 = .ok (.iaload, 1) := by decide +kernel
theorem dX2_leaves_19 : decode cX2_leaves 19 = .ok (.if_icmp .lt 16, 3) := by decide +kernel
theorem dX2_leaves_22 : decode cX2_leaves 22 = .ok (.iload_n 2, 1) := by decide +kernel
theorem dX2_leaves_23 : decode cX2_leaves 23 = .ok (.aload_n 0, 1) := by decide +kernel
theorem dX2_leaves_24 : decode cX2_leaves 24 = .ok (.getfield 31, 3) := by decide +kernel
theorem dX2_leaves_27 : decode cX2_leaves 27 = .ok (.iload_n 1, 1) := by decide +kernel
theorem dX2_leaves_28 : decode cX2_leaves 28 = .ok (.iaload, 1) := by decide +kernel
theorem dX2_leaves_29 : decode cX2_leaves 29 = .ok (.isub, 1) := by decide +kernel
theorem dX2_leaves_30 : decode cX2_leaves 30 = .ok (.iload_n 3, 1) := by decide +kernel
theorem dX2_leaves_31 : decode cX2_leaves 31 = .ok (.irem, 1) := by decide +kernel
theorem dX2_leaves_32 : decode cX2_leaves 32 = .ok (.ifCond .eq 5, 3) := by decide +kernel
theorem dX2_leaves_35 : decode cX2_leaves 35 = .ok (.iconst 0, 1) := by decide +kernel
theorem dX2_leaves_36 : decode cX2_leaves 36 = .ok (.ireturn, 1) := by decide +kernel
theorem dX2_leaves_37 : decode cX2_leaves 37 = .ok (.iconst 0, 1) := by decide +kernel
theorem dX2_leaves_38 : decode cX2_leaves 38 = .ok (.istore 4, 2) := by decide +kernel
theorem dX2_leaves_40 : decode cX2_leaves 40 = .ok (.iload 4, 2) := by decide +kernel
theorem dX2_leaves_42 : decode cX2_leaves 42 = .ok (.aload_n 0, 1) := by decide +kernel
theorem dX2_leaves_43 : decode cX2_leaves 43 = .ok (.getfield 73, 3) := by decide +kernel
theorem dX2_leaves_46 : decode cX2_leaves 46 = .ok (.if_icmp .ge 44, 3) := by decide +kernel
theorem dX2_leaves_49 : decode cX2_leaves 49 = .ok (.aload_n 0, 1) := by decide +kernel
theorem dX2_leaves_50 : decode cX2_leaves 50 = .ok (.getfield 37, 3) := by decide +kernel
theorem dX2_leaves_53 : decode cX2_leaves 53 = .ok (.iload 4, 2) := by decide +kernel
theorem dX2_leaves_55 : decode cX2_leaves 55 = .ok (.iaload, 1) := by decide +kernel
theorem dX2_leaves_56 : decode cX2_leaves 56 = .ok (.iload_n 1, 1) := by decide +kernel
theorem dX2_leaves_57 : decode cX2_leaves 57 = .ok (.if_icmp .ne 27, 3) := by decide +kernel
theorem dX2_leaves_60 : decode cX2_leaves 60 = .ok (.aload_n 0, 1) := by decide +kernel
theorem dX2_leaves_61 : decode cX2_leaves 61 = .ok (.getfield 40, 3) := by decide +kernel
theorem dX2_leaves_64 : decode cX2_leaves 64 = .ok (.iload 4, 2) := by decide +kernel
theorem dX2_leaves_66 : decode cX2_leaves 66 = .ok (.iaload, 1) := by decide +kernel
theorem dX2_leaves_67 : decode cX2_leaves 67 = .ok (.iload_n 2, 1) := by decide +kernel
theorem dX2_leaves_68 : decode cX2_leaves 68 = .ok (.if_icmp .gt 16, 3) := by decide +kernel
theorem dX2_leaves_71 : decode cX2_leaves 71 = .ok (.iload_n 2, 1) := by decide +kernel
theorem dX2_leaves_72 : decode cX2_leaves 72 = .ok (.aload_n 0, 1) := by decide +kernel
theorem dX2_leaves_73 : decode cX2_leaves 73 = .ok (.getfield 43, 3) := by decide +kernel
theorem dX2_leaves_76 : decode cX2_leaves 76 = .ok (.iload 4, 2) := by decide +kernel
theorem dX2_leaves_78 : decode cX2_leaves 78 = .ok (.iaload, 1) := by decide +kernel
theorem dX2_leaves_79 : decode cX2_leaves 79 = .ok (.if_icmp .gt 5, 3) := by decide +kernel
theorem dX2_leaves_82 : decode cX2_leaves 82 = .ok (.iconst 0, 1) := by decide +kernel
theorem dX2_leaves_83 : decode cX2_leaves 83 = .ok (.ireturn, 1) := by decide +kernel
theorem dX2_leaves_84 : decode cX2_leaves 84 = .ok (.iinc 4 1, 3) := by decide +kernel
theorem dX2_leaves_87 : decode cX2_leaves 87 = .ok (.goto (-47), 3) := by decide +kernel
theorem dX2_leaves_90 : decode cX2_leaves 90 = .ok (.iconst 1, 1) := by decide +kernel
theorem dX2_leaves_91 : decode cX2_leaves 91 = .ok (.ireturn, 1) := by decide +kernel
theorem dX2_wayTo_0 : decode cX2_wayTo 0 = .ok (.aload_n 0, 1) := by decide +kernel
theorem dX2_wayTo_1 : decode cX2_wayTo 1 = .ok (.iload_n 2, 1) := by decide +kernel
theorem dX2_wayTo_2 : decode cX2_wayTo 2 = .ok (.invokevirtual 76, 3) := by decide +kernel
theorem dX2_wayTo_5 : decode cX2_wayTo 5 = .ok (.ifCond .eq 19, 3) := by decide +kernel
theorem dX2_wayTo_8 : decode cX2_wayTo 8 = .ok (.iload_n 2, 1) := by decide +kernel
theorem dX2_wayTo_9 : decode cX2_wayTo 9 = .ok (.iload_n 1, 1) := by decide +kernel
theorem dX2_wayTo_10 : decode cX2_wayTo 10 = .ok (.if_icmp .eq 14, 3) := by decide +kernel
theorem dX2_wayTo_13 : decode cX2_wayTo 13 = .ok (.aload_n 0, 1) := by decide +kernel
theorem dX2_wayTo_14 : decode cX2_wayTo 14 = .ok (.iload_n 1, 1) := by decide +kernel
theorem dX2_wayTo_15 : decode cX2_wayTo 15 = .ok (.iload_n 2, 1) := by decide +kernel
theorem dX2_wayTo_16 : decode cX2_wayTo 16 = .ok (.invokevirtual 64, 3) := by decide +kernel
theorem dX2_wayTo_19 : decode cX2_wayTo 19 = .ok (.ldc 46, 2) := by decide +kernel
theorem dX2_wayTo_21 : decode cX2_wayTo 21 = .ok (.if_icmp .lt 6, 3) := by decide +kernel
theorem dX2_wayTo_24 : decode cX2_wayTo 24 = .ok (.bipush (-9), 2) := by decide +kernel
theorem dX2_wayTo_26 : decode cX2_wayTo 26 = .ok (.ireturn, 1) := by decide +kernel
theorem dX2_wayTo_27 : decode cX2_wayTo 27 = .ok (.iconst 0, 1) := by decide +kernel
theorem dX2_wayTo_28 : decode cX2_wayTo 28 = .ok (.istore_n 3, 1) := by decide +kernel
theorem dX2_wayTo_29 : decode cX2_wayTo 29 = .ok (.iload_n 3, 1) := by decide +kernel
theorem dX2_wayTo_30 : decode cX2_wayTo 30 = .ok (.aload_n 0, 1) := by decide +kernel
theorem dX2_wayTo_31 : decode cX2_wayTo 31 = .ok (.getfield 57, 3) := by decide +kernel
theorem dX2_wayTo_34 : decode cX2_wayTo 34 = .ok (.if_icmp .ge 58, 3) := by decide +kernel
theorem dX2_wayTo_37 : decode cX2_wayTo 37 = .ok (.aload_n 0, 1) := by decide +kernel
theorem dX2_wayTo_38 : decode cX2_wayTo 38 = .ok (.getfield 22, 3) := by decide +kernel
theorem dX2_wayTo_41 : decode cX2_wayTo 41 = .ok (.iload_n 3, 1) := by decide +kernel
theorem dX2_wayTo_42 : decode cX2_wayTo 42 = .ok (.iaload, 1) := by decide +kernel
theorem dX2_wayTo_43 : decode cX2_wayTo 43 = .ok (.iload_n 1, 1) := by decide +kernel
theorem dX2_wayTo_44 : decode cX2_wayTo 44 = .ok (.if_icmp .eq 13, 3) := by decide +kernel
theorem dX2_wayTo_47 : decode cX2_wayTo 47 = .ok (.aload_n 0, 1) := by decide +kernel
theorem dX2_wayTo_48 : decode cX2_wayTo 48 = .ok (.getfield 25, 3) := by decide +kernel
theorem dX2_wayTo_51 : decode cX2_wayTo 51 = .ok (.iload_n 3, 1) := by decide +kernel
theorem dX2_wayTo_52 : decode cX2_wayTo 52 = .ok (.iaload, 1) := by decide +kernel
theorem dX2_wayTo_53 : decode cX2_wayTo 53 = .ok (.iload_n 1, 1) := by decide +kernel
theorem dX2_wayTo_54 : decode cX2_wayTo 54 = .ok (.if_icmp .ne 32, 3) := by decide +kernel
theorem dX2_wayTo_57 : decode cX2_wayTo 57 = .ok (.aload_n 0, 1) := by decide +kernel
theorem dX2_wayTo_58 : decode cX2_wayTo 58 = .ok (.getfield 28, 3) := by decide +kernel
theorem dX2_wayTo_61 : decode cX2_wayTo 61 = .ok (.iload_n 3, 1) := by decide +kernel
theorem dX2_wayTo_62 : decode cX2_wayTo 62 = .ok (.iaload, 1) := by decide +kernel
theorem dX2_wayTo_63 : decode cX2_wayTo 63 = .ok (.aload_n 0, 1) := by decide +kernel
theorem dX2_wayTo_64 : decode cX2_wayTo 64 = .ok (.aload_n 0, 1) := by decide +kernel
theorem dX2_wayTo_65 : decode cX2_wayTo 65 = .ok (.iload_n 3, 1) := by decide +kernel
theorem dX2_wayTo_66 : decode cX2_wayTo 66 = .ok (.iload_n 1, 1) := by decide +kernel
theorem dX2_wayTo_67 : decode cX2_wayTo 67 = .ok (.invokevirtual 80, 3) := by decide +kernel
theorem dX2_wayTo_70 : decode cX2_wayTo 70 = .ok (.iload_n 2, 1) := by decide +kernel
theorem dX2_wayTo_71 : decode cX2_wayTo 71 = .ok (.invokevirtual 64, 3) := by decide +kernel
theorem dX2_wayTo_74 : decode cX2_wayTo 74 = .ok (.iadd, 1) := by decide +kernel
theorem dX2_wayTo_75 : decode cX2_wayTo 75 = .ok (.aload_n 0, 1) := by decide +kernel
theorem dX2_wayTo_76 : decode cX2_wayTo 76 = .ok (.iload_n 1, 1) := by decide +kernel
theorem dX2_wayTo_77 : decode cX2_wayTo 77 = .ok (.iload_n 2, 1) := by decide +kernel
theorem dX2_wayTo_78 : decode cX2_wayTo 78 = .ok (.invokevirtual 64, 3) := by decide +kernel
theorem dX2_wayTo_81 : decode cX2_wayTo 81 = .ok (.if_icmp .ne 5, 3) := by decide +kernel
theorem dX2_wayTo_84 : decode cX2_wayTo 84 = .ok (.iload_n 3, 1) := by decide +kernel
theorem dX2_wayTo_85 : decode cX2_wayTo 85 = .ok (.ireturn, 1) := by decide +kernel
theorem dX2_wayTo_86 : decode cX2_wayTo 86 = .ok (.iinc 3 1, 3) := by decide +kernel
theorem dX2_wayTo_89 : decode cX2_wayTo 89 = .ok (.goto (-60), 3) := by decide +kernel
theorem dX2_wayTo_92 : decode cX2_wayTo 92 = .ok (.bipush (-9), 2) := by decide +kernel
theorem dX2_wayTo_94 : decode cX2_wayTo 94 = .ok (.ireturn, 1) := by decide +kernel
theorem dX2_otherEnd_0 : decode cX2_otherEnd 0 = .ok (.aload_n 0, 1) := by decide +kernel
theorem dX2_otherEnd_1 : decode cX2_otherEnd 1 = .ok (.getfield 22, 3) := by decide +kernel
theorem dX2_otherEnd_4 : decode cX2_otherEnd 4 = .ok (.iload_n 1, 1) := by decide +kernel
theorem dX2_otherEnd_5 : decode cX2_otherEnd 5 = .ok (.iaload, 1) := by decide +kernel
theorem dX2_otherEnd_6 : decode cX2_otherEnd 6 = .ok (.iload_n 2, 1) := by decide +kernel
theorem dX2_otherEnd_7 : decode cX2_otherEnd 7 = .ok (.if_icmp .ne 12, 3) := by decide +kernel
theorem dX2_otherEnd_10 : decode cX2_otherEnd 10 = .ok (.aload_n 0, 1) := by decide +kernel
theorem dX2_otherEnd_11 : decode cX2_otherEnd 11 = .ok (.getfield 25, 3) := by decide +kernel
theorem dX2_otherEnd_14 : decode cX2_otherEnd 14 = .ok (.iload_n 1, 1) := by decide +kernel
theorem dX2_otherEnd_15 : decode cX2_otherEnd 15 = .ok (.iaload, 1) := by decide +kernel
theorem dX2_otherEnd_16 : decode cX2_otherEnd 16 = .ok (.goto 9, 3) := by decide +kernel
theorem dX2_otherEnd_19 : decode cX2_otherEnd 19 = .ok (.aload_n 0, 1) := by decide +kernel
theorem dX2_otherEnd_20 : decode cX2_otherEnd 20 = .ok (.getfield 22, 3) := by decide +kernel
theorem dX2_otherEnd_23 : decode cX2_otherEnd 23 = .ok (.iload_n 1, 1) := by decide +kernel
theorem dX2_otherEnd_24 : decode cX2_otherEnd 24 = .ok (.iaload, 1) := by decide +kernel
theorem dX2_otherEnd_25 : decode cX2_otherEnd 25 = .ok (.ireturn, 1) := by decide +kernel
theorem dX3_init_0 : decode cX3_init 0 = .ok (.aload_n 0, 1) := by decide +kernel
theorem dX3_init_1 : decode cX3_init 1 = .ok (.invokespecial 3, 3) := by decide +kernel
theorem dX3_init_4 : decode cX3_init 4 = .ok (.aload_n 0, 1) := by decide +kernel
theorem dX3_init_5 : decode cX3_init 5 = .ok (.new 9, 3) := by decide +kernel
theorem dX3_init_8 : decode cX3_init 8 = .ok (.dup, 1) := by decide +kernel
theorem dX3_init_9 : decode cX3_init 9 = .ok (.invokespecial 11, 3) := by decide +kernel
theorem dX3_init_12 : decode cX3_init 12 = .ok (.putfield 12, 3) := by decide +kernel
theorem dX3_init_15 : decode cX3_init 15 = .ok (.aload_n 0, 1) := by decide +kernel
theorem dX3_init_16 : decode cX3_init 16 = .ok (.bipush 30, 2) := by decide +kernel
theorem dX3_init_18 : decode cX3_init 18 = .ok (.newarray .int, 2) := by decide +kernel
theorem dX3_init_20 : decode cX3_init 20 = .ok (.putfield 18, 3) := by decide +kernel
theorem dX3_init_23 : decode cX3_init 23 = .ok (.aload_n 0, 1) := by decide +kernel
theorem dX3_init_24 : decode cX3_init 24 = .ok (.bipush 30, 2) := by decide +kernel
theorem dX3_init_26 : decode cX3_init 26 = .ok (.newarray .int, 2) := by decide +kernel
theorem dX3_init_28 : decode cX3_init 28 = .ok (.putfield 22, 3) := by decide +kernel
theorem dX3_init_31 : decode cX3_init 31 = .ok (.aload_n 0, 1) := by decide +kernel
theorem dX3_init_32 : decode cX3_init 32 = .ok (.bipush 30, 2) := by decide +kernel
theorem dX3_init_34 : decode cX3_init 34 = .ok (.newarray .int, 2) := by decide +kernel
theorem dX3_init_36 : decode cX3_init 36 = .ok (.putfield 25, 3) := by decide +kernel
theorem dX3_init_39 : decode cX3_init 39 = .ok (.aload_n 0, 1) := by decide +kernel
theorem dX3_init_40 : decode cX3_init 40 = .ok (.sipush 1800, 3) := by decide +kernel
theorem dX3_init_43 : decode cX3_init 43 = .ok (.newarray .int, 2) := by decide +kernel
theorem dX3_init_45 : decode cX3_init 45 = .ok (.putfield 28, 3) := by decide +kernel
theorem dX3_init_48 : decode cX3_init 48 = .ok (.return_, 1) := by decide +kernel
theorem dX3_addBytes_0 : decode cX3_addBytes 0 = .ok (.iconst 0, 1) := by decide +kernel
theorem dX3_addBytes_1 : decode cX3_addBytes 1 = .ok (.istore 4, 2) := by decide +kernel
theorem dX3_addBytes_3 : decode cX3_addBytes 3 = .ok (.iload 4, 2) := by decide +kernel
theorem dX3_addBytes_5 : decode cX3_addBytes 5 = .ok (.iload_n 1, 1) := by decide +kernel
theorem dX3_addBytes_6 : decode cX3_addBytes 6 = .ok (.if_icmp .ge 40, 3) := by decide +kernel
theorem dX3_addBytes_9 : decode cX3_addBytes 9 = .ok (.aload_n 0, 1) := by decide +kernel
theorem dX3_addBytes_10 : decode cX3_addBytes 10 = .ok (.getfield 12, 3) := by decide +kernel
theorem dX3_addBytes_13 : decode cX3_addBytes 13 = .ok (.getfield 31, 3) := by decide +kernel
theorem dX3_addBytes_16 : decode cX3_addBytes 16 = .ok (.aload_n 0, 1) := by decide +kernel
theorem dX3_addBytes_17 : decode cX3_addBytes 17 = .ok (.getfield 35, 3) := by decide +kernel
theorem dX3_addBytes_20 : decode cX3_addBytes 20 = .ok (.lload_n 2, 1) := by decide +kernel
theorem dX3_addBytes_21 : decode cX3_addBytes 21 = .ok (.bipush 8, 2) := by decide +kernel
theorem dX3_addBytes_23 : decode cX3_addBytes 23 = .ok (.iload 4, 2) := by decide +kernel
theorem dX3_addBytes_25 : decode cX3_addBytes 25 = .ok (.imul, 1) := by decide +kernel
theorem dX3_addBytes_26 : decode cX3_addBytes 26 = .ok (.lshr, 1) := by decide +kernel
theorem dX3_addBytes_27 : decode cX3_addBytes 27 = .ok (.l2i, 1) := by decide +kernel
theorem dX3_addBytes_28 : decode cX3_addBytes 28 = .ok (.i2b, 1) := by decide +kernel
theorem dX3_addBytes_29 : decode cX3_addBytes 29 = .ok (.bastore, 1) := by decide +kernel
theorem dX3_addBytes_30 : decode cX3_addBytes 30 = .ok (.aload_n 0, 1) := by decide +kernel
theorem dX3_addBytes_31 : decode cX3_addBytes 31 = .ok (.dup, 1) := by decide +kernel
theorem dX3_addBytes_32 : decode cX3_addBytes 32 = .ok (.getfield 35, 3) := by decide +kernel
theorem dX3_addBytes_35 : decode cX3_addBytes 35 = .ok (.iconst 1, 1) := by decide +kernel
theorem dX3_addBytes_36 : decode cX3_addBytes 36 = .ok (.iadd, 1) := by decide +kernel
theorem dX3_addBytes_37 : decode cX3_addBytes 37 = .ok (.putfield 35, 3) := by decide +kernel
theorem dX3_addBytes_40 : decode cX3_addBytes 40 = .ok (.iinc 4 1, 3) := by decide +kernel
theorem dX3_addBytes_43 : decode cX3_addBytes 43 = .ok (.goto (-40), 3) := by decide +kernel
theorem dX3_addBytes_46 : decode cX3_addBytes 46 = .ok (.aload_n 0, 1) := by decide +kernel
theorem dX3_addBytes_47 : decode cX3_addBytes 47 = .ok (.getfield 35, 3) := by decide +kernel
theorem dX3_addBytes_50 : decode cX3_addBytes 50 = .ok (.ireturn, 1) := by decide +kernel
theorem dX3_addOrder_0 : decode cX3_addOrder 0 = .ok (.aload_n 0, 1) := by decide +kernel
theorem dX3_addOrder_1 : decode cX3_addOrder 1 = .ok (.getfield 12, 3) := by decide +kernel
theorem dX3_addOrder_4 : decode cX3_addOrder 4 = .ok (.aload_n 0, 1) := by decide +kernel
theorem dX3_addOrder_5 : decode cX3_addOrder 5 = .ok (.getfield 35, 3) := by decide +kernel
theorem dX3_addOrder_8 : decode cX3_addOrder 8 = .ok (.invokevirtual 39, 3) := by decide +kernel
theorem dX3_addOrder_11 : decode cX3_addOrder 11 = .ok (.istore_n 3, 1) := by decide +kernel
theorem dX3_addOrder_12 : decode cX3_addOrder 12 = .ok (.aload_n 0, 1) := by decide +kernel
theorem dX3_addOrder_13 : decode cX3_addOrder 13 = .ok (.iconst 0, 1) := by decide +kernel
theorem dX3_addOrder_14 : decode cX3_addOrder 14 = .ok (.putfield 35, 3) := by decide +kernel
theorem dX3_addOrder_17 : decode cX3_addOrder 17 = .ok (.iload_n 3, 1) := by decide +kernel
theorem dX3_addOrder_18 : decode cX3_addOrder 18 = .ok (.ifCond .ge 78, 3) := by decide +kernel
theorem dX3_addOrder_21 : decode cX3_addOrder 21 = .ok (.aload_n 0, 1) := by decide +kernel
theorem dX3_addOrder_22 : decode cX3_addOrder 22 = .ok (.getfield 18, 3) := by decide +kernel
theorem dX3_addOrder_25 : decode cX3_addOrder 25 = .ok (.aload_n 0, 1) := by decide +kernel
theorem dX3_addOrder_26 : decode cX3_addOrder 26 = .ok (.getfield 43, 3) := by decide +kernel
theorem dX3_addOrder_29 : decode cX3_addOrder 29 = .ok (.iload_n 1, 1) := by decide +kernel
theorem dX3_addOrder_30 : decode cX3_addOrder 30 = .ok (.iastore, 1) := by decide +kernel
theorem dX3_addOrder_31 : decode cX3_addOrder 31 = .ok (.aload_n 0, 1) := by decide +kernel
theorem dX3_addOrder_32 : decode cX3_addOrder 32 = .ok (.getfield 22, 3) := by decide +kernel
theorem dX3_addOrder_35 : decode cX3_addOrder 35 = .ok (.aload_n 0, 1) := by decide +kernel
theorem dX3_addOrder_36 : decode cX3_addOrder 36 = .ok (.getfield 43, 3) := by decide +kernel
theorem dX3_addOrder_39 : decode cX3_addOrder 39 = .ok (.iload_n 2, 1) := by decide +kernel
theorem dX3_addOrder_40 : decode cX3_addOrder 40 = .ok (.iastore, 1) := by decide +kernel
theorem dX3_addOrder_41 : decode cX3_addOrder 41 = .ok (.aload_n 0, 1) := by decide +kernel
theorem dX3_addOrder_42 : decode cX3_addOrder 42 = .ok (.getfield 25, 3) := by decide +kernel
theorem dX3_addOrder_45 : decode cX3_addOrder 45 = .ok (.aload_n 0, 1) := by decide +kernel
theorem dX3_addOrder_46 : decode cX3_addOrder 46 = .ok (.getfield 43, 3) := by decide +kernel
theorem dX3_addOrder_49 : decode cX3_addOrder 49 = .ok (.aload_n 0, 1) := by decide +kernel
theorem dX3_addOrder_50 : decode cX3_addOrder 50 = .ok (.getfield 12, 3) := by decide +kernel
theorem dX3_addOrder_53 : decode cX3_addOrder 53 = .ok (.getfield 46, 3) := by decide +kernel
theorem dX3_addOrder_56 : decode cX3_addOrder 56 = .ok (.iastore, 1) := by decide +kernel
theorem dX3_addOrder_57 : decode cX3_addOrder 57 = .ok (.aload_n 0, 1) := by decide +kernel
theorem dX3_addOrder_58 : decode cX3_addOrder 58 = .ok (.getfield 12, 3) := by decide +kernel
theorem dX3_addOrder_61 : decode cX3_addOrder 61 = .ok (.getfield 49, 3) := by decide +kernel
theorem dX3_addOrder_64 : decode cX3_addOrder 64 = .ok (.iconst 0, 1) := by decide +kernel
theorem dX3_addOrder_65 : decode cX3_addOrder 65 = .ok (.aload_n 0, 1) := by decide +kernel
theorem dX3_addOrder_66 : decode cX3_addOrder 66 = .ok (.getfield 28, 3) := by decide +kernel
theorem dX3_addOrder_69 : decode cX3_addOrder 69 = .ok (.aload_n 0, 1) := by decide +kernel
theorem dX3_addOrder_70 : decode cX3_addOrder 70 = .ok (.getfield 43, 3) := by decide +kernel
theorem dX3_addOrder_73 : decode cX3_addOrder 73 = .ok (.bipush 60, 2) := by decide +kernel
theorem dX3_addOrder_75 : decode cX3_addOrder 75 = .ok (.imul, 1) := by decide +kernel
theorem dX3_addOrder_76 : decode cX3_addOrder 76 = .ok (.aload_n 0, 1) := by decide +kernel
theorem dX3_addOrder_77 : decode cX3_addOrder 77 = .ok (.getfield 12, 3) := by decide +kernel
theorem dX3_addOrder_80 : decode cX3_addOrder 80 = .ok (.getfield 46, 3) := by decide +kernel
theorem dX3_addOrder_83 : decode cX3_addOrder 83 = .ok (.invokestatic 50, 3) := by decide +kernel
theorem dX3_addOrder_86 : decode cX3_addOrder 86 = .ok (.aload_n 0, 1) := by decide +kernel
theorem dX3_addOrder_87 : decode cX3_addOrder 87 = .ok (.dup, 1) := by decide +kernel
theorem dX3_addOrder_88 : decode cX3_addOrder 88 = .ok (.getfield 43, 3) := by decide +kernel
theorem dX3_addOrder_91 : decode cX3_addOrder 91 = .ok (.iconst 1, 1) := by decide +kernel
theorem dX3_addOrder_92 : decode cX3_addOrder 92 = .ok (.iadd, 1) := by decide +kernel
theorem dX3_addOrder_93 : decode cX3_addOrder 93 = .ok (.putfield 43, 3) := by decide +kernel
theorem dX3_addOrder_96 : decode cX3_addOrder 96 = .ok (.iload_n 3, 1) := by decide +kernel
theorem dX3_addOrder_97 : decode cX3_addOrder 97 = .ok (.ireturn, 1) := by decide +kernel
theorem dX3_inForce_0 : decode cX3_inForce 0 = .ok (.aload_n 0, 1) := by decide +kernel
theorem dX3_inForce_1 : decode cX3_inForce 1 = .ok (.getfield 43, 3) := by decide +kernel
theorem dX3_inForce_4 : decode cX3_inForce 4 = .ok (.iconst 1, 1) := by decide +kernel
theorem dX3_inForce_5 : decode cX3_inForce 5 = .ok (.isub, 1) := by decide +kernel
theorem dX3_inForce_6 : decode cX3_inForce 6 = .ok (.istore 4, 2) := by decide +kernel
theorem dX3_inForce_8 : decode cX3_inForce 8 = .ok (.iload 4, 2) := by decide +kernel
theorem dX3_inForce_10 : decode cX3_inForce 10 = .ok (.ifCond .lt 36, 3) := by decide +kernel
theorem dX3_inForce_13 : decode cX3_inForce 13 = .ok (.aload_n 0, 1) := by decide +kernel
theorem dX3_inForce_14 : decode cX3_inForce 14 = .ok (.getfield 18, 3) := by decide +kernel
theorem dX3_inForce_17 : decode cX3_inForce 17 = .ok (.iload 4, 2) := by decide +kernel
theorem dX3_inForce_19 : decode cX3_inForce 19 = .ok (.iaload, 1) := by decide +kernel
theorem dX3_inForce_20 : decode cX3_inForce 20 = .ok (.iload_n 1, 1) := by decide +kernel
theorem dX3_inForce_21 : decode cX3_inForce 21 = .ok (.if_icmp .ne 19, 3) := by decide +kernel
theorem dX3_inForce_24 : decode cX3_inForce 24 = .ok (.aload_n 0, 1) := by decide +kernel
theorem dX3_inForce_25 : decode cX3_inForce 25 = .ok (.getfield 22, 3) := by decide +kernel
theorem dX3_inForce_28 : decode cX3_inForce 28 = .ok (.iload 4, 2) := by decide +kernel
theorem dX3_inForce_30 : decode cX3_inForce 30 = .ok (.iaload, 1) := by decide +kernel
theorem dX3_inForce_31 : decode cX3_inForce 31 = .ok (.iload_n 3, 1) := by decide +kernel
theorem dX3_inForce_32 : decode cX3_inForce 32 = .ok (.iadd, 1) := by decide +kernel
theorem dX3_inForce_33 : decode cX3_inForce 33 = .ok (.iload_n 2, 1) := by decide +kernel
theorem dX3_inForce_34 : decode cX3_inForce 34 = .ok (.if_icmp .gt 6, 3) := by decide +kernel
theorem dX3_inForce_37 : decode cX3_inForce 37 = .ok (.iload 4, 2) := by decide +kernel
theorem dX3_inForce_39 : decode cX3_inForce 39 = .ok (.ireturn, 1) := by decide +kernel
theorem dX3_inForce_40 : decode cX3_inForce 40 = .ok (.iinc 4 (-1), 3) := by decide +kernel
theorem dX3_inForce_43 : decode cX3_inForce 43 = .ok (.goto (-35), 3) := by decide +kernel
theorem dX3_inForce_46 : decode cX3_inForce 46 = .ok (.iconst (-1), 1) := by decide +kernel
theorem dX3_inForce_47 : decode cX3_inForce 47 = .ok (.ireturn, 1) := by decide +kernel
theorem dX3_isTrue_0 : decode cX3_isTrue 0 = .ok (.iconst 0, 1) := by decide +kernel
theorem dX3_isTrue_1 : decode cX3_isTrue 1 = .ok (.istore_n 3, 1) := by decide +kernel
theorem dX3_isTrue_2 : decode cX3_isTrue 2 = .ok (.iload_n 1, 1) := by decide +kernel
theorem dX3_isTrue_3 : decode cX3_isTrue 3 = .ok (.bipush 60, 2) := by decide +kernel
theorem dX3_isTrue_5 : decode cX3_isTrue 5 = .ok (.imul, 1) := by decide +kernel
theorem dX3_isTrue_6 : decode cX3_isTrue 6 = .ok (.istore 4, 2) := by decide +kernel
theorem dX3_isTrue_8 : decode cX3_isTrue 8 = .ok (.iconst 0, 1) := by decide +kernel
theorem dX3_isTrue_9 : decode cX3_isTrue 9 = .ok (.istore 5, 2) := by decide +kernel
theorem dX3_isTrue_11 : decode cX3_isTrue 11 = .ok (.iload 5, 2) := by decide +kernel
theorem dX3_isTrue_13 : decode cX3_isTrue 13 = .ok (.aload_n 0, 1) := by decide +kernel
theorem dX3_isTrue_14 : decode cX3_isTrue 14 = .ok (.getfield 25, 3) := by decide +kernel
theorem dX3_isTrue_17 : decode cX3_isTrue 17 = .ok (.iload_n 1, 1) := by decide +kernel
theorem dX3_isTrue_18 : decode cX3_isTrue 18 = .ok (.iaload, 1) := by decide +kernel
theorem dX3_isTrue_19 : decode cX3_isTrue 19 = .ok (.if_icmp .ge 104, 3) := by decide +kernel
theorem dX3_isTrue_22 : decode cX3_isTrue 22 = .ok (.aload_n 0, 1) := by decide +kernel
theorem dX3_isTrue_23 : decode cX3_isTrue 23 = .ok (.getfield 28, 3) := by decide +kernel
theorem dX3_isTrue_26 : decode cX3_isTrue 26 = .ok (.iload 4, 2) := by decide +kernel
theorem dX3_isTrue_28 : decode cX3_isTrue 28 = .ok (.iload 5, 2) := by decide +kernel
theorem dX3_isTrue_30 : decode cX3_isTrue 30 = .ok (.iadd, 1) := by decide +kernel
theorem dX3_isTrue_31 : decode cX3_isTrue 31 = .ok (.iaload, 1) := by decide +kernel
theorem dX3_isTrue_32 : decode cX3_isTrue 32 = .ok (.istore 6, 2) := by decide +kernel
theorem dX3_isTrue_34 : decode cX3_isTrue 34 = .ok (.iload_n 3, 1) := by decide +kernel
theorem dX3_isTrue_35 : decode cX3_isTrue 35 = .ok (.iconst 1, 1) := by decide +kernel
theorem dX3_isTrue_36 : decode cX3_isTrue 36 = .ok (.iand, 1) := by decide +kernel
theorem dX3_isTrue_37 : decode cX3_isTrue 37 = .ok (.istore 7, 2) := by decide +kernel
theorem dX3_isTrue_39 : decode cX3_isTrue 39 = .ok (.iload 6, 2) := by decide +kernel
theorem dX3_isTrue_41 : decode cX3_isTrue 41 = .ok (.iconst (-1), 1) := by decide +kernel
theorem dX3_isTrue_42 : decode cX3_isTrue 42 = .ok (.if_icmp .ne 10, 3) := by decide +kernel
theorem dX3_isTrue_45 : decode cX3_isTrue 45 = .ok (.iload_n 3, 1) := by decide +kernel
theorem dX3_isTrue_46 : decode cX3_isTrue 46 = .ok (.iconst 1, 1) := by decide +kernel
theorem dX3_isTrue_47 : decode cX3_isTrue 47 = .ok (.ixor, 1) := by decide +kernel
theorem dX3_isTrue_48 : decode cX3_isTrue 48 = .ok (.istore_n 3, 1) := by decide +kernel
theorem dX3_isTrue_49 : decode cX3_isTrue 49 = .ok (.goto 68, 3) := by decide +kernel
theorem dX3_isTrue_52 : decode cX3_isTrue 52 = .ok (.iload 6, 2) := by decide +kernel
theorem dX3_isTrue_54 : decode cX3_isTrue 54 = .ok (.bipush (-2), 2) := by decide +kernel
theorem dX3_isTrue_56 : decode cX3_isTrue 56 = .ok (.if_icmp .ne 25, 3) := by decide +kernel
theorem dX3_isTrue_59 : decode cX3_isTrue 59 = .ok (.iload 7, 2) := by decide +kernel
theorem dX3_isTrue_61 : decode cX3_isTrue 61 = .ok (.iconst 1, 1) := by decide +kernel
theorem dX3_isTrue_62 : decode cX3_isTrue 62 = .ok (.if_icmp .ne 9, 3) := by decide +kernel
theorem dX3_isTrue_65 : decode cX3_isTrue 65 = .ok (.iload_n 3, 1) := by decide +kernel
theorem dX3_isTrue_66 : decode cX3_isTrue 66 = .ok (.iconst 1, 1) := by decide +kernel
theorem dX3_isTrue_67 : decode cX3_isTrue 67 = .ok (.ishr, 1) := by decide +kernel
theorem dX3_isTrue_68 : decode cX3_isTrue 68 = .ok (.goto 9, 3) := by decide +kernel
theorem dX3_isTrue_71 : decode cX3_isTrue 71 = .ok (.iload_n 3, 1) := by decide +kernel
theorem dX3_isTrue_72 : decode cX3_isTrue 72 = .ok (.iconst 1, 1) := by decide +kernel
theorem dX3_isTrue_73 : decode cX3_isTrue 73 = .ok (.ishr, 1) := by decide +kernel
theorem dX3_isTrue_74 : decode cX3_isTrue 74 = .ok (.bipush (-2), 2) := by decide +kernel
theorem dX3_isTrue_76 : decode cX3_isTrue 76 = .ok (.iand, 1) := by decide +kernel
theorem dX3_isTrue_77 : decode cX3_isTrue 77 = .ok (.istore_n 3, 1) := by decide +kernel
theorem dX3_isTrue_78 : decode cX3_isTrue 78 = .ok (.goto 39, 3) := by decide +kernel
theorem dX3_isTrue_81 : decode cX3_isTrue 81 = .ok (.iload 6, 2) := by decide +kernel
theorem dX3_isTrue_83 : decode cX3_isTrue 83 = .ok (.bipush (-3), 2) := by decide +kernel
theorem dX3_isTrue_85 : decode cX3_isTrue 85 = .ok (.if_icmp .ne 13, 3) := by decide +kernel
theorem dX3_isTrue_88 : decode cX3_isTrue 88 = .ok (.iload_n 3, 1) := by decide +kernel
theorem dX3_isTrue_89 : decode cX3_isTrue 89 = .ok (.iconst 1, 1) := by decide +kernel
theorem dX3_isTrue_90 : decode cX3_isTrue 90 = .ok (.ishr, 1) := by decide +kernel
theorem dX3_isTrue_91 : decode cX3_isTrue 91 = .ok (.iload 7, 2) := by decide +kernel
theorem dX3_isTrue_93 : decode cX3_isTrue 93 = .ok (.ior, 1) := by decide +kernel
theorem dX3_isTrue_94 : decode cX3_isTrue 94 = .ok (.istore_n 3, 1) := by decide +kernel
theorem dX3_isTrue_95 : decode cX3_isTrue 95 = .ok (.goto 22, 3) := by decide +kernel
theorem dX3_isTrue_98 : decode cX3_isTrue 98 = .ok (.iload_n 3, 1) := by decide +kernel
theorem dX3_isTrue_99 : decode cX3_isTrue 99 = .ok (.iconst 1, 1) := by decide +kernel
theorem dX3_isTrue_100 : decode cX3_isTrue 100 = .ok (.ishl, 1) := by decide +kernel
theorem dX3_isTrue_101 : decode cX3_isTrue 101 = .ok (.iload 6, 2) := by decide +kernel
theorem dX3_isTrue_103 : decode cX3_isTrue 103 = .ok (.aload_n 2, 1) := by decide +kernel
theorem dX3_isTrue_104 : decode cX3_isTrue 104 = .ok (.invokestatic 56, 3) := by decide +kernel
theorem dX3_isTrue_107 : decode cX3_isTrue 107 = .ok (.ifCond .eq 7, 3) := by decide +kernel
theorem dX3_isTrue_110 : decode cX3_isTrue 110 = .ok (.iconst 1, 1) := by decide +kernel
theorem dX3_isTrue_111 : decode cX3_isTrue 111 = .ok (.goto 4, 3) := by decide +kernel
theorem dX3_isTrue_114 : decode cX3_isTrue 114 = .ok (.iconst 0, 1) := by decide +kernel
theorem dX3_isTrue_115 : decode cX3_isTrue 115 = .ok (.ior, 1) := by decide +kernel
theorem dX3_isTrue_116 : decode cX3_isTrue 116 = .ok (.istore_n 3, 1) := by decide +kernel
theorem dX3_isTrue_117 : decode cX3_isTrue 117 = .ok (.iinc 5 1, 3) := by decide +kernel
theorem dX3_isTrue_120 : decode cX3_isTrue 120 = .ok (.goto (-109), 3) := by decide +kernel
theorem dX3_isTrue_123 : decode cX3_isTrue 123 = .ok (.iload_n 3, 1) := by decide +kernel
theorem dX3_isTrue_124 : decode cX3_isTrue 124 = .ok (.iconst 1, 1) := by decide +kernel
theorem dX3_isTrue_125 : decode cX3_isTrue 125 = .ok (.iand, 1) := by decide +kernel
theorem dX3_isTrue_126 : decode cX3_isTrue 126 = .ok (.iconst 1, 1) := by decide +kernel
theorem dX3_isTrue_127 : decode cX3_isTrue 127 = .ok (.if_icmp .ne 7, 3) := by decide +kernel
theorem dX3_isTrue_130 : decode cX3_isTrue 130 = .ok (.iconst 1, 1) := by decide +kernel
theorem dX3_isTrue_131 : decode cX3_isTrue 131 = .ok (.goto 4, 3) := by decide +kernel
theorem dX3_isTrue_134 : decode cX3_isTrue 134 = .ok (.iconst 0, 1) := by decide +kernel
theorem dX3_isTrue_135 : decode cX3_isTrue 135 = .ok (.ireturn, 1) := by decide +kernel
theorem dX3_isTrueStep_0 : decode cX3_isTrueStep 0 = .ok (.iload_n 0, 1) := by decide +kernel
theorem dX3_isTrueStep_1 : decode cX3_isTrueStep 1 = .ok (.bipush 16, 2) := by decide +kernel
theorem dX3_isTrueStep_3 : decode cX3_isTrueStep 3 = .ok (.ishr, 1) := by decide +kernel
theorem dX3_isTrueStep_4 : decode cX3_isTrueStep 4 = .ok (.aload_n 1, 1) := by decide +kernel
theorem dX3_isTrueStep_5 : decode cX3_isTrueStep 5 = .ok (.invokestatic 60, 3) := by decide +kernel
theorem dX3_isTrueStep_8 : decode cX3_isTrueStep 8 = .ok (.istore_n 2, 1) := by decide +kernel
theorem dX3_isTrueStep_9 : decode cX3_isTrueStep 9 = .ok (.iload_n 0, 1) := by decide +kernel
theorem dX3_isTrueStep_10 : decode cX3_isTrueStep 10 = .ok (.sipush 16383, 3) := by decide +kernel
theorem dX3_isTrueStep_13 : decode cX3_isTrueStep 13 = .ok (.iand, 1) := by decide +kernel
theorem dX3_isTrueStep_14 : decode cX3_isTrueStep 14 = .ok (.aload_n 1, 1) := by decide +kernel
theorem dX3_isTrueStep_15 : decode cX3_isTrueStep 15 = .ok (.invokestatic 60, 3) := by decide +kernel
theorem dX3_isTrueStep_18 : decode cX3_isTrueStep 18 = .ok (.istore_n 3, 1) := by decide +kernel
theorem dX3_isTrueStep_19 : decode cX3_isTrueStep 19 = .ok (.iload_n 0, 1) := by decide +kernel
theorem dX3_isTrueStep_20 : decode cX3_isTrueStep 20 = .ok (.bipush 14, 2) := by decide +kernel
theorem dX3_isTrueStep_22 : decode cX3_isTrueStep 22 = .ok (.ishr, 1) := by decide +kernel
theorem dX3_isTrueStep_23 : decode cX3_isTrueStep 23 = .ok (.iconst 3, 1) := by decide +kernel
theorem dX3_isTrueStep_24 : decode cX3_isTrueStep 24 = .ok (.iand, 1) := by decide +kernel
theorem dX3_isTrueStep_25 : decode cX3_isTrueStep 25 = .ok (.istore 4, 2) := by decide +kernel
theorem dX3_isTrueStep_27 : decode cX3_isTrueStep 27 = .ok (.iload 4, 2) := by decide +kernel
theorem dX3_isTrueStep_29 : decode cX3_isTrueStep 29 = .ok (.ifCond .ne 14, 3) := by decide +kernel
theorem dX3_isTrueStep_32 : decode cX3_isTrueStep 32 = .ok (.iload_n 2, 1) := by decide +kernel
theorem dX3_isTrueStep_33 : decode cX3_isTrueStep 33 = .ok (.iload_n 3, 1) := by decide +kernel
theorem dX3_isTrueStep_34 : decode cX3_isTrueStep 34 = .ok (.if_icmp .ge 7, 3) := by decide +kernel
theorem dX3_isTrueStep_37 : decode cX3_isTrueStep 37 = .ok (.iconst 1, 1) := by decide +kernel
theorem dX3_isTrueStep_38 : decode cX3_isTrueStep 38 = .ok (.goto 4, 3) := by decide +kernel
theorem dX3_isTrueStep_41 : decode cX3_isTrueStep 41 = .ok (.iconst 0, 1) := by decide +kernel
theorem dX3_isTrueStep_42 : decode cX3_isTrueStep 42 = .ok (.ireturn, 1) := by decide +kernel
theorem dX3_isTrueStep_43 : decode cX3_isTrueStep 43 = .ok (.iload 4, 2) := by decide +kernel
theorem dX3_isTrueStep_45 : decode cX3_isTrueStep 45 = .ok (.iconst 1, 1) := by decide +kernel
theorem dX3_isTrueStep_46 : decode cX3_isTrueStep 46 = .ok (.if_icmp .ne 16, 3) := by decide +kernel
theorem dX3_isTrueStep_49 : decode cX3_isTrueStep 49 = .ok (.iload_n 2, 1) := by decide +kernel
theorem dX3_isTrueStep_50 : decode cX3_isTrueStep 50 = .ok (.iload_n 3, 1) := by decide +kernel
theorem dX3_isTrueStep_51 : decode cX3_isTrueStep 51 = .ok (.if_icmp .ne 7, 3) := by decide +kernel
theorem dX3_isTrueStep_54 : decode cX3_isTrueStep 54 = .ok (.iconst 1, 1) := by decide +kernel
theorem dX3_isTrueStep_55 : decode cX3_isTrueStep 55 = .ok (.goto 17, 3) := by decide +kernel
theorem dX3_isTrueStep_58 : decode cX3_isTrueStep 58 = .ok (.iconst 0, 1) := by decide +kernel
theorem dX3_isTrueStep_59 : decode cX3_isTrueStep 59 = .ok (.goto 13, 3) := by decide +kernel
theorem dX3_isTrueStep_62 : decode cX3_isTrueStep 62 = .ok (.iload_n 2, 1) := by decide +kernel
theorem dX3_isTrueStep_63 : decode cX3_isTrueStep 63 = .ok (.iload_n 3, 1) := by decide +kernel
theorem dX3_isTrueStep_64 : decode cX3_isTrueStep 64 = .ok (.if_icmp .le 7, 3) := by decide +kernel
theorem dX3_isTrueStep_67 : decode cX3_isTrueStep 67 = .ok (.iconst 1, 1) := by decide +kernel
theorem dX3_isTrueStep_68 : decode cX3_isTrueStep 68 = .ok (.goto 4, 3) := by decide +kernel
theorem dX3_isTrueStep_71 : decode cX3_isTrueStep 71 = .ok (.iconst 0, 1) := by decide +kernel
theorem dX3_isTrueStep_72 : decode cX3_isTrueStep 72 = .ok (.ireturn, 1) := by decide +kernel
theorem dX3_valueOf_0 : decode cX3_valueOf 0 = .ok (.iload_n 0, 1) := by decide +kernel
theorem dX3_valueOf_1 : decode cX3_valueOf 1 = .ok (.sipush 10000, 3) := by decide +kernel
theorem dX3_valueOf_4 : decode cX3_valueOf 4 = .ok (.isub, 1) := by decide +kernel
theorem dX3_valueOf_5 : decode cX3_valueOf 5 = .ok (.istore_n 2, 1) := by decide +kernel
theorem dX3_valueOf_6 : decode cX3_valueOf 6 = .ok (.iload_n 2, 1) := by decide +kernel
theorem dX3_valueOf_7 : decode cX3_valueOf 7 = .ok (.ifCond .lt 15, 3) := by decide +kernel
theorem dX3_valueOf_10 : decode cX3_valueOf 10 = .ok (.iload_n 2, 1) := by decide +kernel
theorem dX3_valueOf_11 : decode cX3_valueOf 11 = .ok (.aload_n 1, 1) := by decide +kernel
theorem dX3_valueOf_12 : decode cX3_valueOf 12 = .ok (.arraylength, 1) := by decide +kernel
theorem dX3_valueOf_13 : decode cX3_valueOf 13 = .ok (.if_icmp .ge 9, 3) := by decide +kernel
theorem dX3_valueOf_16 : decode cX3_valueOf 16 = .ok (.aload_n 1, 1) := by decide +kernel
theorem dX3_valueOf_17 : decode cX3_valueOf 17 = .ok (.iload_n 2, 1) := by decide +kernel
theorem dX3_valueOf_18 : decode cX3_valueOf 18 = .ok (.iaload, 1) := by decide +kernel
theorem dX3_valueOf_19 : decode cX3_valueOf 19 = .ok (.goto 4, 3) := by decide +kernel
theorem dX3_valueOf_22 : decode cX3_valueOf 22 = .ok (.iload_n 0, 1) := by decide +kernel
theorem dX3_valueOf_23 : decode cX3_valueOf 23 = .ok (.ireturn, 1) := by decide +kernel
theorem dX4_init_0 : decode cX4_init 0 = .ok (.aload_n 0, 1) := by decide +kernel
theorem dX4_init_1 : decode cX4_init 1 = .ok (.invokespecial 3, 3) := by decide +kernel
theorem dX4_init_4 : decode cX4_init 4 = .ok (.aload_n 0, 1) := by decide +kernel
theorem dX4_init_5 : decode cX4_init 5 = .ok (.new 9, 3) := by decide +kernel
theorem dX4_init_8 : decode cX4_init 8 = .ok (.dup, 1) := by decide +kernel
theorem dX4_init_9 : decode cX4_init 9 = .ok (.invokespecial 11, 3) := by decide +kernel
theorem dX4_init_12 : decode cX4_init 12 = .ok (.putfield 12, 3) := by decide +kernel
theorem dX4_init_15 : decode cX4_init 15 = .ok (.aload_n 0, 1) := by decide +kernel
theorem dX4_init_16 : decode cX4_init 16 = .ok (.new 18, 3) := by decide +kernel
theorem dX4_init_19 : decode cX4_init 19 = .ok (.dup, 1) := by decide +kernel
theorem dX4_init_20 : decode cX4_init 20 = .ok (.invokespecial 20, 3) := by decide +kernel
theorem dX4_init_23 : decode cX4_init 23 = .ok (.putfield 21, 3) := by decide +kernel
theorem dX4_init_26 : decode cX4_init 26 = .ok (.aload_n 0, 1) := by decide +kernel
theorem dX4_init_27 : decode cX4_init 27 = .ok (.new 25, 3) := by decide +kernel
theorem dX4_init_30 : decode cX4_init 30 = .ok (.dup, 1) := by decide +kernel
theorem dX4_init_31 : decode cX4_init 31 = .ok (.invokespecial 27, 3) := by decide +kernel
theorem dX4_init_34 : decode cX4_init 34 = .ok (.putfield 28, 3) := by decide +kernel
theorem dX4_init_37 : decode cX4_init 37 = .ok (.aload_n 0, 1) := by decide +kernel
theorem dX4_init_38 : decode cX4_init 38 = .ok (.new 32, 3) := by decide +kernel
theorem dX4_init_41 : decode cX4_init 41 = .ok (.dup, 1) := by decide +kernel
theorem dX4_init_42 : decode cX4_init 42 = .ok (.invokespecial 34, 3) := by decide +kernel
theorem dX4_init_45 : decode cX4_init 45 = .ok (.putfield 35, 3) := by decide +kernel
theorem dX4_init_48 : decode cX4_init 48 = .ok (.aload_n 0, 1) := by decide +kernel
theorem dX4_init_49 : decode cX4_init 49 = .ok (.bipush 60, 2) := by decide +kernel
theorem dX4_init_51 : decode cX4_init 51 = .ok (.newarray .int, 2) := by decide +kernel
theorem dX4_init_53 : decode cX4_init 53 = .ok (.putfield 39, 3) := by decide +kernel
theorem dX4_init_56 : decode cX4_init 56 = .ok (.aload_n 0, 1) := by decide +kernel
theorem dX4_init_57 : decode cX4_init 57 = .ok (.bipush 12, 2) := by decide +kernel
theorem dX4_init_59 : decode cX4_init 59 = .ok (.newarray .int, 2) := by decide +kernel
theorem dX4_init_61 : decode cX4_init 61 = .ok (.putfield 43, 3) := by decide +kernel
theorem dX4_init_64 : decode cX4_init 64 = .ok (.aload_n 0, 1) := by decide +kernel
theorem dX4_init_65 : decode cX4_init 65 = .ok (.ldc 48, 2) := by decide +kernel
theorem dX4_init_67 : decode cX4_init 67 = .ok (.invokevirtual 50, 3) := by decide +kernel
theorem dX4_init_70 : decode cX4_init 70 = .ok (.newarray .int, 2) := by decide +kernel
theorem dX4_init_72 : decode cX4_init 72 = .ok (.putfield 56, 3) := by decide +kernel
theorem dX4_init_75 : decode cX4_init 75 = .ok (.aload_n 0, 1) := by decide +kernel
theorem dX4_init_76 : decode cX4_init 76 = .ok (.bipush 72, 2) := by decide +kernel
theorem dX4_init_78 : decode cX4_init 78 = .ok (.putfield 59, 3) := by decide +kernel
theorem dX4_init_81 : decode cX4_init 81 = .ok (.return_, 1) := by decide +kernel
theorem dX4_passHour_0 : decode cX4_passHour 0 = .ok (.aload_n 1, 1) := by decide +kernel
theorem dX4_passHour_1 : decode cX4_passHour 1 = .ok (.aload_n 0, 1) := by decide +kernel
theorem dX4_passHour_2 : decode cX4_passHour 2 = .ok (.getfield 35, 3) := by decide +kernel
theorem dX4_passHour_5 : decode cX4_passHour 5 = .ok (.getfield 63, 3) := by decide +kernel
theorem dX4_passHour_8 : decode cX4_passHour 8 = .ok (.iload_n 2, 1) := by decide +kernel
theorem dX4_passHour_9 : decode cX4_passHour 9 = .ok (.invokevirtual 66, 3) := by decide +kernel
theorem dX4_passHour_12 : decode cX4_passHour 12 = .ok (.aload_n 0, 1) := by decide +kernel
theorem dX4_passHour_13 : decode cX4_passHour 13 = .ok (.aload_n 1, 1) := by decide +kernel
theorem dX4_passHour_14 : decode cX4_passHour 14 = .ok (.invokevirtual 72, 3) := by decide +kernel
theorem dX4_passHour_17 : decode cX4_passHour 17 = .ok (.istore_n 3, 1) := by decide +kernel
theorem dX4_passHour_18 : decode cX4_passHour 18 = .ok (.aload_n 0, 1) := by decide +kernel
theorem dX4_passHour_19 : decode cX4_passHour 19 = .ok (.getfield 43, 3) := by decide +kernel
theorem dX4_passHour_22 : decode cX4_passHour 22 = .ok (.iconst 0, 1) := by decide +kernel
theorem dX4_passHour_23 : decode cX4_passHour 23 = .ok (.invokestatic 76, 3) := by decide +kernel
theorem dX4_passHour_26 : decode cX4_passHour 26 = .ok (.iconst 0, 1) := by decide +kernel
theorem dX4_passHour_27 : decode cX4_passHour 27 = .ok (.istore 4, 2) := by decide +kernel
theorem dX4_passHour_29 : decode cX4_passHour 29 = .ok (.iload 4, 2) := by decide +kernel
theorem dX4_passHour_31 : decode cX4_passHour 31 = .ok (.iload_n 3, 1) := by decide +kernel
theorem dX4_passHour_32 : decode cX4_passHour 32 = .ok (.if_icmp .ge 66, 3) := by decide +kernel
theorem dX4_passHour_35 : decode cX4_passHour 35 = .ok (.aload_n 0, 1) := by decide +kernel
theorem dX4_passHour_36 : decode cX4_passHour 36 = .ok (.getfield 39, 3) := by decide +kernel
theorem dX4_passHour_39 : decode cX4_passHour 39 = .ok (.iload 4, 2) := by decide +kernel
theorem dX4_passHour_41 : decode cX4_passHour 41 = .ok (.iaload, 1) := by decide +kernel
theorem dX4_passHour_42 : decode cX4_passHour 42 = .ok (.istore 5, 2) := by decide +kernel
theorem dX4_passHour_44 : decode cX4_passHour 44 = .ok (.aload_n 1, 1) := by decide +kernel
theorem dX4_passHour_45 : decode cX4_passHour 45 = .ok (.getfield 82, 3) := by decide +kernel
theorem dX4_passHour_48 : decode cX4_passHour 48 = .ok (.iload 5, 2) := by decide +kernel
theorem dX4_passHour_50 : decode cX4_passHour 50 = .ok (.iaload, 1) := by decide +kernel
theorem dX4_passHour_51 : decode cX4_passHour 51 = .ok (.istore 6, 2) := by decide +kernel
theorem dX4_passHour_53 : decode cX4_passHour 53 = .ok (.aload_n 0, 1) := by decide +kernel
theorem dX4_passHour_54 : decode cX4_passHour 54 = .ok (.getfield 43, 3) := by decide +kernel
theorem dX4_passHour_57 : decode cX4_passHour 57 = .ok (.iload 6, 2) := by decide +kernel
theorem dX4_passHour_59 : decode cX4_passHour 59 = .ok (.iaload, 1) := by decide +kernel
theorem dX4_passHour_60 : decode cX4_passHour 60 = .ok (.aload_n 0, 1) := by decide +kernel
theorem dX4_passHour_61 : decode cX4_passHour 61 = .ok (.getfield 12, 3) := by decide +kernel
theorem dX4_passHour_64 : decode cX4_passHour 64 = .ok (.getfield 85, 3) := by decide +kernel
theorem dX4_passHour_67 : decode cX4_passHour 67 = .ok (.iload 6, 2) := by decide +kernel
theorem dX4_passHour_69 : decode cX4_passHour 69 = .ok (.iaload, 1) := by decide +kernel
theorem dX4_passHour_70 : decode cX4_passHour 70 = .ok (.if_icmp .ge 22, 3) := by decide +kernel
theorem dX4_passHour_73 : decode cX4_passHour 73 = .ok (.aload_n 0, 1) := by decide +kernel
theorem dX4_passHour_74 : decode cX4_passHour 74 = .ok (.getfield 43, 3) := by decide +kernel
theorem dX4_passHour_77 : decode cX4_passHour 77 = .ok (.iload 6, 2) := by decide +kernel
theorem dX4_passHour_79 : decode cX4_passHour 79 = .ok (.dup2, 1) := by decide +kernel
theorem dX4_passHour_80 : decode cX4_passHour 80 = .ok (.iaload, 1) := by decide +kernel
theorem dX4_passHour_81 : decode cX4_passHour 81 = .ok (.iconst 1, 1) := by decide +kernel
theorem dX4_passHour_82 : decode cX4_passHour 82 = .ok (.iadd, 1) := by decide +kernel
theorem dX4_passHour_83 : decode cX4_passHour 83 = .ok (.iastore, 1) := by decide +kernel
theorem dX4_passHour_84 : decode cX4_passHour 84 = .ok (.aload_n 0, 1) := by decide +kernel
theorem dX4_passHour_85 : decode cX4_passHour 85 = .ok (.aload_n 1, 1) := by decide +kernel
theorem dX4_passHour_86 : decode cX4_passHour 86 = .ok (.iload 5, 2) := by decide +kernel
theorem dX4_passHour_88 : decode cX4_passHour 88 = .ok (.iload_n 2, 1) := by decide +kernel
theorem dX4_passHour_89 : decode cX4_passHour 89 = .ok (.invokevirtual 88, 3) := by decide +kernel
theorem dX4_passHour_92 : decode cX4_passHour 92 = .ok (.iinc 4 1, 3) := by decide +kernel
theorem dX4_passHour_95 : decode cX4_passHour 95 = .ok (.goto (-66), 3) := by decide +kernel
theorem dX4_passHour_98 : decode cX4_passHour 98 = .ok (.return_, 1) := by decide +kernel
theorem dX4_lineUp_0 : decode cX4_lineUp 0 = .ok (.iconst 0, 1) := by decide +kernel
theorem dX4_lineUp_1 : decode cX4_lineUp 1 = .ok (.istore_n 2, 1) := by decide +kernel
theorem dX4_lineUp_2 : decode cX4_lineUp 2 = .ok (.iconst 0, 1) := by decide +kernel
theorem dX4_lineUp_3 : decode cX4_lineUp 3 = .ok (.istore_n 3, 1) := by decide +kernel
theorem dX4_lineUp_4 : decode cX4_lineUp 4 = .ok (.iload_n 3, 1) := by decide +kernel
theorem dX4_lineUp_5 : decode cX4_lineUp 5 = .ok (.aload_n 0, 1) := by decide +kernel
theorem dX4_lineUp_6 : decode cX4_lineUp 6 = .ok (.getfield 35, 3) := by decide +kernel
theorem dX4_lineUp_9 : decode cX4_lineUp 9 = .ok (.getfield 63, 3) := by decide +kernel
theorem dX4_lineUp_12 : decode cX4_lineUp 12 = .ok (.if_icmp .ge 82, 3) := by decide +kernel
theorem dX4_lineUp_15 : decode cX4_lineUp 15 = .ok (.aload_n 1, 1) := by decide +kernel
theorem dX4_lineUp_16 : decode cX4_lineUp 16 = .ok (.getfield 92, 3) := by decide +kernel
theorem dX4_lineUp_19 : decode cX4_lineUp 19 = .ok (.iload_n 3, 1) := by decide +kernel
theorem dX4_lineUp_20 : decode cX4_lineUp 20 = .ok (.iaload, 1) := by decide +kernel
theorem dX4_lineUp_21 : decode cX4_lineUp 21 = .ok (.ifCond .ne 67, 3) := by decide +kernel
theorem dX4_lineUp_24 : decode cX4_lineUp 24 = .ok (.iload_n 2, 1) := by decide +kernel
theorem dX4_lineUp_25 : decode cX4_lineUp 25 = .ok (.istore 4, 2) := by decide +kernel
theorem dX4_lineUp_27 : decode cX4_lineUp 27 = .ok (.iload 4, 2) := by decide +kernel
theorem dX4_lineUp_29 : decode cX4_lineUp 29 = .ok (.ifCond .le 48, 3) := by decide +kernel
theorem dX4_lineUp_32 : decode cX4_lineUp 32 = .ok (.aload_n 1, 1) := by decide +kernel
theorem dX4_lineUp_33 : decode cX4_lineUp 33 = .ok (.getfield 95, 3) := by decide +kernel
theorem dX4_lineUp_36 : decode cX4_lineUp 36 = .ok (.aload_n 0, 1) := by decide +kernel
theorem dX4_lineUp_37 : decode cX4_lineUp 37 = .ok (.getfield 39, 3) := by decide +kernel
theorem dX4_lineUp_40 : decode cX4_lineUp 40 = .ok (.iload 4, 2) := by decide +kernel
theorem dX4_lineUp_42 : decode cX4_lineUp 42 = .ok (.iconst 1, 1) := by decide +kernel
theorem dX4_lineUp_43 : decode cX4_lineUp 43 = .ok (.isub, 1) := by decide +kernel
theorem dX4_lineUp_44 : decode cX4_lineUp 44 = .ok (.iaload, 1) := by decide +kernel
theorem dX4_lineUp_45 : decode cX4_lineUp 45 = .ok (.iaload, 1) := by decide +kernel
theorem dX4_lineUp_46 : decode cX4_lineUp 46 = .ok (.aload_n 1, 1) := by decide +kernel
theorem dX4_lineUp_47 : decode cX4_lineUp 47 = .ok (.getfield 95, 3) := by decide +kernel
theorem dX4_lineUp_50 : decode cX4_lineUp 50 = .ok (.iload_n 3, 1) := by decide +kernel
theorem dX4_lineUp_51 : decode cX4_lineUp 51 = .ok (.iaload, 1) := by decide +kernel
theorem dX4_lineUp_52 : decode cX4_lineUp 52 = .ok (.if_icmp .le 25, 3) := by decide +kernel
theorem dX4_lineUp_55 : decode cX4_lineUp 55 = .ok (.aload_n 0, 1) := by decide +kernel
theorem dX4_lineUp_56 : decode cX4_lineUp 56 = .ok (.getfield 39, 3) := by decide +kernel
theorem dX4_lineUp_59 : decode cX4_lineUp 59 = .ok (.iload 4, 2) := by decide +kernel
theorem dX4_lineUp_61 : decode cX4_lineUp 61 = .ok (.aload_n 0, 1) := by decide +kernel
theorem dX4_lineUp_62 : decode cX4_lineUp 62 = .ok (.getfield 39, 3) := by decide +kernel
theorem dX4_lineUp_65 : decode cX4_lineUp 65 = .ok (.iload 4, 2) := by decide +kernel
theorem dX4_lineUp_67 : decode cX4_lineUp 67 = .ok (.iconst 1, 1) := by decide +kernel
theorem dX4_lineUp_68 : decode cX4_lineUp 68 = .ok (.isub, 1) := by decide +kernel
theorem dX4_lineUp_69 : decode cX4_lineUp 69 = .ok (.iaload, 1) := by decide +kernel
theorem dX4_lineUp_70 : decode cX4_lineUp 70 = .ok (.iastore, 1) := by decide +kernel
theorem dX4_lineUp_71 : decode cX4_lineUp 71 = .ok (.iinc 4 (-1), 3) := by decide +kernel
theorem dX4_lineUp_74 : decode cX4_lineUp 74 = .ok (.goto (-47), 3) := by decide +kernel
theorem dX4_lineUp_77 : decode cX4_lineUp 77 = .ok (.aload_n 0, 1) := by decide +kernel
theorem dX4_lineUp_78 : decode cX4_lineUp 78 = .ok (.getfield 39, 3) := by decide +kernel
theorem dX4_lineUp_81 : decode cX4_lineUp 81 = .ok (.iload 4, 2) := by decide +kernel
theorem dX4_lineUp_83 : decode cX4_lineUp 83 = .ok (.iload_n 3, 1) := by decide +kernel
theorem dX4_lineUp_84 : decode cX4_lineUp 84 = .ok (.iastore, 1) := by decide +kernel
theorem dX4_lineUp_85 : decode cX4_lineUp 85 = .ok (.iinc 2 1, 3) := by decide +kernel
theorem dX4_lineUp_88 : decode cX4_lineUp 88 = .ok (.iinc 3 1, 3) := by decide +kernel
theorem dX4_lineUp_91 : decode cX4_lineUp 91 = .ok (.goto (-87), 3) := by decide +kernel
theorem dX4_lineUp_94 : decode cX4_lineUp 94 = .ok (.iload_n 2, 1) := by decide +kernel
theorem dX4_lineUp_95 : decode cX4_lineUp 95 = .ok (.ireturn, 1) := by decide +kernel
theorem dX4_see_0 : decode cX4_see 0 = .ok (.aload_n 1, 1) := by decide +kernel
theorem dX4_see_1 : decode cX4_see 1 = .ok (.getfield 82, 3) := by decide +kernel
theorem dX4_see_4 : decode cX4_see 4 = .ok (.iload_n 2, 1) := by decide +kernel
theorem dX4_see_5 : decode cX4_see 5 = .ok (.iaload, 1) := by decide +kernel
theorem dX4_see_6 : decode cX4_see 6 = .ok (.istore 4, 2) := by decide +kernel
theorem dX4_see_8 : decode cX4_see 8 = .ok (.aload_n 0, 1) := by decide +kernel
theorem dX4_see_9 : decode cX4_see 9 = .ok (.aload_n 1, 1) := by decide +kernel
theorem dX4_see_10 : decode cX4_see 10 = .ok (.iload_n 2, 1) := by decide +kernel
theorem dX4_see_11 : decode cX4_see 11 = .ok (.iload_n 3, 1) := by decide +kernel
theorem dX4_see_12 : decode cX4_see 12 = .ok (.invokevirtual 98, 3) := by decide +kernel
theorem dX4_see_15 : decode cX4_see 15 = .ok (.aload_n 0, 1) := by decide +kernel
theorem dX4_see_16 : decode cX4_see 16 = .ok (.iconst 0, 1) := by decide +kernel
theorem dX4_see_17 : decode cX4_see 17 = .ok (.iload 4, 2) := by decide +kernel
theorem dX4_see_19 : decode cX4_see 19 = .ok (.iload_n 3, 1) := by decide +kernel
theorem dX4_see_20 : decode cX4_see 20 = .ok (.invokevirtual 101, 3) := by decide +kernel
theorem dX4_see_23 : decode cX4_see 23 = .ok (.ifCond .eq 13, 3) := by decide +kernel
theorem dX4_see_26 : decode cX4_see 26 = .ok (.aload_n 1, 1) := by decide +kernel
theorem dX4_see_27 : decode cX4_see 27 = .ok (.iload_n 2, 1) := by decide +kernel
theorem dX4_see_28 : decode cX4_see 28 = .ok (.iconst 4, 1) := by decide +kernel
theorem dX4_see_29 : decode cX4_see 29 = .ok (.iload_n 3, 1) := by decide +kernel
theorem dX4_see_30 : decode cX4_see 30 = .ok (.invokevirtual 105, 3) := by decide +kernel
theorem dX4_see_33 : decode cX4_see 33 = .ok (.goto 28, 3) := by decide +kernel
theorem dX4_see_36 : decode cX4_see 36 = .ok (.aload_n 0, 1) := by decide +kernel
theorem dX4_see_37 : decode cX4_see 37 = .ok (.iconst 1, 1) := by decide +kernel
theorem dX4_see_38 : decode cX4_see 38 = .ok (.iload 4, 2) := by decide +kernel
theorem dX4_see_40 : decode cX4_see 40 = .ok (.iload_n 3, 1) := by decide +kernel
theorem dX4_see_41 : decode cX4_see 41 = .ok (.invokevirtual 101, 3) := by decide +kernel
theorem dX4_see_44 : decode cX4_see 44 = .ok (.ifCond .ne 17, 3) := by decide +kernel
theorem dX4_see_47 : decode cX4_see 47 = .ok (.aload_n 0, 1) := by decide +kernel
theorem dX4_see_48 : decode cX4_see 48 = .ok (.aload_n 1, 1) := by decide +kernel
theorem dX4_see_49 : decode cX4_see 49 = .ok (.iload_n 2, 1) := by decide +kernel
theorem dX4_see_50 : decode cX4_see 50 = .ok (.iload_n 3, 1) := by decide +kernel
theorem dX4_see_51 : decode cX4_see 51 = .ok (.invokevirtual 109, 3) := by decide +kernel
theorem dX4_see_54 : decode cX4_see 54 = .ok (.aload_n 0, 1) := by decide +kernel
theorem dX4_see_55 : decode cX4_see 55 = .ok (.aload_n 1, 1) := by decide +kernel
theorem dX4_see_56 : decode cX4_see 56 = .ok (.iload_n 2, 1) := by decide +kernel
theorem dX4_see_57 : decode cX4_see 57 = .ok (.iload_n 3, 1) := by decide +kernel
theorem dX4_see_58 : decode cX4_see 58 = .ok (.invokevirtual 112, 3) := by decide +kernel
theorem dX4_see_61 : decode cX4_see 61 = .ok (.return_, 1) := by decide +kernel
theorem dX4_turnBack_0 : decode cX4_turnBack 0 = .ok (.aload_n 1, 1) := by decide +kernel
theorem dX4_turnBack_1 : decode cX4_turnBack 1 = .ok (.getfield 115, 3) := by decide +kernel
theorem dX4_turnBack_4 : decode cX4_turnBack 4 = .ok (.iload_n 2, 1) := by decide +kernel
theorem dX4_turnBack_5 : decode cX4_turnBack 5 = .ok (.baload, 1) := by decide +kernel
theorem dX4_turnBack_6 : decode cX4_turnBack 6 = .ok (.ifCond .eq 4, 3) := by decide +kernel
theorem dX4_turnBack_9 : decode cX4_turnBack 9 = .ok (.return_, 1) := by decide +kernel
theorem dX4_turnBack_10 : decode cX4_turnBack 10 = .ok (.aload_n 0, 1) := by decide +kernel
theorem dX4_turnBack_11 : decode cX4_turnBack 11 = .ok (.getfield 56, 3) := by decide +kernel
theorem dX4_turnBack_14 : decode cX4_turnBack 14 = .ok (.iconst 4, 1) := by decide +kernel
theorem dX4_turnBack_15 : decode cX4_turnBack 15 = .ok (.iaload, 1) := by decide +kernel
theorem dX4_turnBack_16 : decode cX4_turnBack 16 = .ok (.istore 4, 2) := by decide +kernel
theorem dX4_turnBack_18 : decode cX4_turnBack 18 = .ok (.aload_n 0, 1) := by decide +kernel
theorem dX4_turnBack_19 : decode cX4_turnBack 19 = .ok (.iconst 2, 1) := by decide +kernel
theorem dX4_turnBack_20 : decode cX4_turnBack 20 = .ok (.aload_n 1, 1) := by decide +kernel
theorem dX4_turnBack_21 : decode cX4_turnBack 21 = .ok (.getfield 82, 3) := by decide +kernel
theorem dX4_turnBack_24 : decode cX4_turnBack 24 = .ok (.iload_n 2, 1) := by decide +kernel
theorem dX4_turnBack_25 : decode cX4_turnBack 25 = .ok (.iaload, 1) := by decide +kernel
theorem dX4_turnBack_26 : decode cX4_turnBack 26 = .ok (.iload_n 3, 1) := by decide +kernel
theorem dX4_turnBack_27 : decode cX4_turnBack 27 = .ok (.invokevirtual 101, 3) := by decide +kernel
theorem dX4_turnBack_30 : decode cX4_turnBack 30 = .ok (.ifCond .eq 12, 3) := by decide +kernel
theorem dX4_turnBack_33 : decode cX4_turnBack 33 = .ok (.aload_n 1, 1) := by decide +kernel
theorem dX4_turnBack_34 : decode cX4_turnBack 34 = .ok (.iload_n 2, 1) := by decide +kernel
theorem dX4_turnBack_35 : decode cX4_turnBack 35 = .ok (.iconst 4, 1) := by decide +kernel
theorem dX4_turnBack_36 : decode cX4_turnBack 36 = .ok (.invokevirtual 119, 3) := by decide +kernel
theorem dX4_turnBack_39 : decode cX4_turnBack 39 = .ok (.goto 22, 3) := by decide +kernel
theorem dX4_turnBack_42 : decode cX4_turnBack 42 = .ok (.iload 4, 2) := by decide +kernel
theorem dX4_turnBack_44 : decode cX4_turnBack 44 = .ok (.iconst 2, 1) := by decide +kernel
theorem dX4_turnBack_45 : decode cX4_turnBack 45 = .ok (.if_icmp .eq 9, 3) := by decide +kernel
theorem dX4_turnBack_48 : decode cX4_turnBack 48 = .ok (.iload 4, 2) := by decide +kernel
theorem dX4_turnBack_50 : decode cX4_turnBack 50 = .ok (.iconst 3, 1) := by decide +kernel
theorem dX4_turnBack_51 : decode cX4_turnBack 51 = .ok (.if_icmp .ne 10, 3) := by decide +kernel
theorem dX4_turnBack_54 : decode cX4_turnBack 54 = .ok (.aload_n 1, 1) := by decide +kernel
theorem dX4_turnBack_55 : decode cX4_turnBack 55 = .ok (.iload_n 2, 1) := by decide +kernel
theorem dX4_turnBack_56 : decode cX4_turnBack 56 = .ok (.iload 4, 2) := by decide +kernel
theorem dX4_turnBack_58 : decode cX4_turnBack 58 = .ok (.invokevirtual 119, 3) := by decide +kernel
theorem dX4_turnBack_61 : decode cX4_turnBack 61 = .ok (.return_, 1) := by decide +kernel
theorem dX4_handle_0 : decode cX4_handle 0 = .ok (.aload_n 1, 1) := by decide +kernel
theorem dX4_handle_1 : decode cX4_handle 1 = .ok (.getfield 82, 3) := by decide +kernel
theorem dX4_handle_4 : decode cX4_handle 4 = .ok (.iload_n 2, 1) := by decide +kernel
theorem dX4_handle_5 : decode cX4_handle 5 = .ok (.iaload, 1) := by decide +kernel
theorem dX4_handle_6 : decode cX4_handle 6 = .ok (.istore 4, 2) := by decide +kernel
theorem dX4_handle_8 : decode cX4_handle 8 = .ok (.aload_n 0, 1) := by decide +kernel
theorem dX4_handle_9 : decode cX4_handle 9 = .ok (.aload_n 1, 1) := by decide +kernel
theorem dX4_handle_10 : decode cX4_handle 10 = .ok (.iload_n 2, 1) := by decide +kernel
theorem dX4_handle_11 : decode cX4_handle 11 = .ok (.iload_n 3, 1) := by decide +kernel
theorem dX4_handle_12 : decode cX4_handle 12 = .ok (.invokevirtual 122, 3) := by decide +kernel
theorem dX4_handle_15 : decode cX4_handle 15 = .ok (.istore 5, 2) := by decide +kernel
theorem dX4_handle_17 : decode cX4_handle 17 = .ok (.iload 5, 2) := by decide +kernel
theorem dX4_handle_19 : decode cX4_handle 19 = .ok (.iload 4, 2) := by decide +kernel
theorem dX4_handle_21 : decode cX4_handle 21 = .ok (.if_icmp .ne 22, 3) := by decide +kernel
theorem dX4_handle_24 : decode cX4_handle 24 = .ok (.aload_n 1, 1) := by decide +kernel
theorem dX4_handle_25 : decode cX4_handle 25 = .ok (.getfield 115, 3) := by decide +kernel
theorem dX4_handle_28 : decode cX4_handle 28 = .ok (.iload_n 2, 1) := by decide +kernel
theorem dX4_handle_29 : decode cX4_handle 29 = .ok (.baload, 1) := by decide +kernel
theorem dX4_handle_30 : decode cX4_handle 30 = .ok (.ifCond .eq 13, 3) := by decide +kernel
theorem dX4_handle_33 : decode cX4_handle 33 = .ok (.aload_n 1, 1) := by decide +kernel
theorem dX4_handle_34 : decode cX4_handle 34 = .ok (.iload_n 2, 1) := by decide +kernel
theorem dX4_handle_35 : decode cX4_handle 35 = .ok (.iconst 3, 1) := by decide +kernel
theorem dX4_handle_36 : decode cX4_handle 36 = .ok (.iload_n 3, 1) := by decide +kernel
theorem dX4_handle_37 : decode cX4_handle 37 = .ok (.invokevirtual 105, 3) := by decide +kernel
theorem dX4_handle_40 : decode cX4_handle 40 = .ok (.goto 89, 3) := by decide +kernel
theorem dX4_handle_43 : decode cX4_handle 43 = .ok (.iload 5, 2) := by decide +kernel
theorem dX4_handle_45 : decode cX4_handle 45 = .ok (.iload 4, 2) := by decide +kernel
theorem dX4_handle_47 : decode cX4_handle 47 = .ok (.if_icmp .ne 35, 3) := by decide +kernel
theorem dX4_handle_50 : decode cX4_handle 50 = .ok (.aload_n 0, 1) := by decide +kernel
theorem dX4_handle_51 : decode cX4_handle 51 = .ok (.getfield 21, 3) := by decide +kernel
theorem dX4_handle_54 : decode cX4_handle 54 = .ok (.aload_n 0, 1) := by decide +kernel
theorem dX4_handle_55 : decode cX4_handle 55 = .ok (.getfield 35, 3) := by decide +kernel
theorem dX4_handle_58 : decode cX4_handle 58 = .ok (.getfield 126, 3) := by decide +kernel
theorem dX4_handle_61 : decode cX4_handle 61 = .ok (.iload_n 2, 1) := by decide +kernel
theorem dX4_handle_62 : decode cX4_handle 62 = .ok (.iaload, 1) := by decide +kernel
theorem dX4_handle_63 : decode cX4_handle 63 = .ok (.iload_n 3, 1) := by decide +kernel
theorem dX4_handle_64 : decode cX4_handle 64 = .ok (.invokevirtual 129, 3) := by decide +kernel
theorem dX4_handle_67 : decode cX4_handle 67 = .ok (.iload 4, 2) := by decide +kernel
theorem dX4_handle_69 : decode cX4_handle 69 = .ok (.if_icmp .ne 13, 3) := by decide +kernel
theorem dX4_handle_72 : decode cX4_handle 72 = .ok (.aload_n 0, 1) := by decide +kernel
theorem dX4_handle_73 : decode cX4_handle 73 = .ok (.aload_n 1, 1) := by decide +kernel
theorem dX4_handle_74 : decode cX4_handle 74 = .ok (.iload_n 2, 1) := by decide +kernel
theorem dX4_handle_75 : decode cX4_handle 75 = .ok (.iload_n 3, 1) := by decide +kernel
theorem dX4_handle_76 : decode cX4_handle 76 = .ok (.invokevirtual 133, 3) := by decide +kernel
theorem dX4_handle_79 : decode cX4_handle 79 = .ok (.goto 50, 3) := by decide +kernel
theorem dX4_handle_82 : decode cX4_handle 82 = .ok (.iload 5, 2) := by decide +kernel
theorem dX4_handle_84 : decode cX4_handle 84 = .ok (.iload 4, 2) := by decide +kernel
theorem dX4_handle_86 : decode cX4_handle 86 = .ok (.if_icmp .eq 10, 3) := by decide +kernel
theorem dX4_handle_89 : decode cX4_handle 89 = .ok (.iload 5, 2) := by decide +kernel
theorem dX4_handle_91 : decode cX4_handle 91 = .ok (.bipush (-9), 2) := by decide +kernel
theorem dX4_handle_93 : decode cX4_handle 93 = .ok (.if_icmp .ne 27, 3) := by decide +kernel
theorem dX4_handle_96 : decode cX4_handle 96 = .ok (.iload_n 3, 1) := by decide +kernel
theorem dX4_handle_97 : decode cX4_handle 97 = .ok (.aload_n 1, 1) := by decide +kernel
theorem dX4_handle_98 : decode cX4_handle 98 = .ok (.getfield 95, 3) := by decide +kernel
theorem dX4_handle_101 : decode cX4_handle 101 = .ok (.iload_n 2, 1) := by decide +kernel
theorem dX4_handle_102 : decode cX4_handle 102 = .ok (.iaload, 1) := by decide +kernel
theorem dX4_handle_103 : decode cX4_handle 103 = .ok (.isub, 1) := by decide +kernel
theorem dX4_handle_104 : decode cX4_handle 104 = .ok (.aload_n 0, 1) := by decide +kernel
theorem dX4_handle_105 : decode cX4_handle 105 = .ok (.getfield 59, 3) := by decide +kernel
theorem dX4_handle_108 : decode cX4_handle 108 = .ok (.if_icmp .lt 21, 3) := by decide +kernel
theorem dX4_handle_111 : decode cX4_handle 111 = .ok (.aload_n 1, 1) := by decide +kernel
theorem dX4_handle_112 : decode cX4_handle 112 = .ok (.iload_n 2, 1) := by decide +kernel
theorem dX4_handle_113 : decode cX4_handle 113 = .ok (.iconst 1, 1) := by decide +kernel
theorem dX4_handle_114 : decode cX4_handle 114 = .ok (.invokevirtual 119, 3) := by decide +kernel
theorem dX4_handle_117 : decode cX4_handle 117 = .ok (.goto 12, 3) := by decide +kernel
theorem dX4_handle_120 : decode cX4_handle 120 = .ok (.aload_n 0, 1) := by decide +kernel
theorem dX4_handle_121 : decode cX4_handle 121 = .ok (.aload_n 1, 1) := by decide +kernel
theorem dX4_handle_122 : decode cX4_handle 122 = .ok (.iload_n 2, 1) := by decide +kernel
theorem dX4_handle_123 : decode cX4_handle 123 = .ok (.iload 5, 2) := by decide +kernel
theorem dX4_handle_125 : decode cX4_handle 125 = .ok (.iload_n 3, 1) := by decide +kernel
theorem dX4_handle_126 : decode cX4_handle 126 = .ok (.invokevirtual 136, 3) := by decide +kernel
theorem dX4_handle_129 : decode cX4_handle 129 = .ok (.return_, 1) := by decide +kernel
theorem dX4_give_0 : decode cX4_give 0 = .ok (.aload_n 0, 1) := by decide +kernel
theorem dX4_give_1 : decode cX4_give 1 = .ok (.getfield 35, 3) := by decide +kernel
theorem dX4_give_4 : decode cX4_give 4 = .ok (.getfield 140, 3) := by decide +kernel
theorem dX4_give_7 : decode cX4_give 7 = .ok (.iload_n 2, 1) := by decide +kernel
theorem dX4_give_8 : decode cX4_give 8 = .ok (.iaload, 1) := by decide +kernel
theorem dX4_give_9 : decode cX4_give 9 = .ok (.iconst 1, 1) := by decide +kernel
theorem dX4_give_10 : decode cX4_give 10 = .ok (.if_icmp .ne 7, 3) := by decide +kernel
theorem dX4_give_13 : decode cX4_give 13 = .ok (.iconst 1, 1) := by decide +kernel
theorem dX4_give_14 : decode cX4_give 14 = .ok (.goto 4, 3) := by decide +kernel
theorem dX4_give_17 : decode cX4_give 17 = .ok (.iconst 0, 1) := by decide +kernel
theorem dX4_give_18 : decode cX4_give 18 = .ok (.istore 4, 2) := by decide +kernel
