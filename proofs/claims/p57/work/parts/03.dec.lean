theorem dX0_init_0 : decode cX0_init 0 = .ok (.aload_n 0, 1) := by decide +kernel
theorem dX0_init_1 : decode cX0_init 1 = .ok (.invokespecial 3, 3) := by decide +kernel
theorem dX0_init_4 : decode cX0_init 4 = .ok (.aload_n 0, 1) := by decide +kernel
theorem dX0_init_5 : decode cX0_init 5 = .ok (.iconst 0, 1) := by decide +kernel
theorem dX0_init_6 : decode cX0_init 6 = .ok (.putfield 9, 3) := by decide +kernel
theorem dX0_init_9 : decode cX0_init 9 = .ok (.aload_n 0, 1) := by decide +kernel
theorem dX0_init_10 : decode cX0_init 10 = .ok (.iconst 0, 1) := by decide +kernel
theorem dX0_init_11 : decode cX0_init 11 = .ok (.putfield 15, 3) := by decide +kernel
theorem dX0_init_14 : decode cX0_init 14 = .ok (.aload_n 0, 1) := by decide +kernel
theorem dX0_init_15 : decode cX0_init 15 = .ok (.iconst 0, 1) := by decide +kernel
theorem dX0_init_16 : decode cX0_init 16 = .ok (.putfield 18, 3) := by decide +kernel
theorem dX0_init_19 : decode cX0_init 19 = .ok (.aload_n 0, 1) := by decide +kernel
theorem dX0_init_20 : decode cX0_init 20 = .ok (.iconst 0, 1) := by decide +kernel
theorem dX0_init_21 : decode cX0_init 21 = .ok (.putfield 21, 3) := by decide +kernel
theorem dX0_init_24 : decode cX0_init 24 = .ok (.aload_n 0, 1) := by decide +kernel
theorem dX0_init_25 : decode cX0_init 25 = .ok (.iconst 0, 1) := by decide +kernel
theorem dX0_init_26 : decode cX0_init 26 = .ok (.putfield 24, 3) := by decide +kernel
theorem dX0_init_29 : decode cX0_init 29 = .ok (.aload_n 0, 1) := by decide +kernel
theorem dX0_init_30 : decode cX0_init 30 = .ok (.iconst 0, 1) := by decide +kernel
theorem dX0_init_31 : decode cX0_init 31 = .ok (.putfield 27, 3) := by decide +kernel
theorem dX0_init_34 : decode cX0_init 34 = .ok (.aload_n 0, 1) := by decide +kernel
theorem dX0_init_35 : decode cX0_init 35 = .ok (.iconst 0, 1) := by decide +kernel
theorem dX0_init_36 : decode cX0_init 36 = .ok (.putfield 30, 3) := by decide +kernel
theorem dX0_init_39 : decode cX0_init 39 = .ok (.aload_n 0, 1) := by decide +kernel
theorem dX0_init_40 : decode cX0_init 40 = .ok (.bipush 12, 2) := by decide +kernel
theorem dX0_init_42 : decode cX0_init 42 = .ok (.newarray .boolean, 2) := by decide +kernel
theorem dX0_init_44 : decode cX0_init 44 = .ok (.putfield 33, 3) := by decide +kernel
theorem dX0_init_47 : decode cX0_init 47 = .ok (.aload_n 0, 1) := by decide +kernel
theorem dX0_init_48 : decode cX0_init 48 = .ok (.bipush 12, 2) := by decide +kernel
theorem dX0_init_50 : decode cX0_init 50 = .ok (.newarray .int, 2) := by decide +kernel
theorem dX0_init_52 : decode cX0_init 52 = .ok (.putfield 37, 3) := by decide +kernel
theorem dX0_init_55 : decode cX0_init 55 = .ok (.aload_n 0, 1) := by decide +kernel
theorem dX0_init_56 : decode cX0_init 56 = .ok (.bipush 12, 2) := by decide +kernel
theorem dX0_init_58 : decode cX0_init 58 = .ok (.newarray .int, 2) := by decide +kernel
theorem dX0_init_60 : decode cX0_init 60 = .ok (.putfield 41, 3) := by decide +kernel
theorem dX0_init_63 : decode cX0_init 63 = .ok (.aload_n 0, 1) := by decide +kernel
theorem dX0_init_64 : decode cX0_init 64 = .ok (.bipush 8, 2) := by decide +kernel
theorem dX0_init_66 : decode cX0_init 66 = .ok (.newarray .boolean, 2) := by decide +kernel
theorem dX0_init_68 : decode cX0_init 68 = .ok (.putfield 44, 3) := by decide +kernel
theorem dX0_init_71 : decode cX0_init 71 = .ok (.aload_n 0, 1) := by decide +kernel
theorem dX0_init_72 : decode cX0_init 72 = .ok (.bipush 8, 2) := by decide +kernel
theorem dX0_init_74 : decode cX0_init 74 = .ok (.newarray .int, 2) := by decide +kernel
theorem dX0_init_76 : decode cX0_init 76 = .ok (.putfield 47, 3) := by decide +kernel
theorem dX0_init_79 : decode cX0_init 79 = .ok (.aload_n 0, 1) := by decide +kernel
theorem dX0_init_80 : decode cX0_init 80 = .ok (.bipush 8, 2) := by decide +kernel
theorem dX0_init_82 : decode cX0_init 82 = .ok (.newarray .boolean, 2) := by decide +kernel
theorem dX0_init_84 : decode cX0_init 84 = .ok (.putfield 50, 3) := by decide +kernel
theorem dX0_init_87 : decode cX0_init 87 = .ok (.aload_n 0, 1) := by decide +kernel
theorem dX0_init_88 : decode cX0_init 88 = .ok (.aload_n 1, 1) := by decide +kernel
theorem dX0_init_89 : decode cX0_init 89 = .ok (.putfield 53, 3) := by decide +kernel
theorem dX0_init_92 : decode cX0_init 92 = .ok (.return_, 1) := by decide +kernel
theorem dX0_startOver_0 : decode cX0_startOver 0 = .ok (.aload_n 0, 1) := by decide +kernel
theorem dX0_startOver_1 : decode cX0_startOver 1 = .ok (.iconst 0, 1) := by decide +kernel
theorem dX0_startOver_2 : decode cX0_startOver 2 = .ok (.putfield 15, 3) := by decide +kernel
theorem dX0_startOver_5 : decode cX0_startOver 5 = .ok (.aload_n 0, 1) := by decide +kernel
theorem dX0_startOver_6 : decode cX0_startOver 6 = .ok (.iconst 0, 1) := by decide +kernel
theorem dX0_startOver_7 : decode cX0_startOver 7 = .ok (.putfield 18, 3) := by decide +kernel
theorem dX0_startOver_10 : decode cX0_startOver 10 = .ok (.aload_n 0, 1) := by decide +kernel
theorem dX0_startOver_11 : decode cX0_startOver 11 = .ok (.iconst 0, 1) := by decide +kernel
theorem dX0_startOver_12 : decode cX0_startOver 12 = .ok (.putfield 21, 3) := by decide +kernel
theorem dX0_startOver_15 : decode cX0_startOver 15 = .ok (.aload_n 0, 1) := by decide +kernel
theorem dX0_startOver_16 : decode cX0_startOver 16 = .ok (.iconst 0, 1) := by decide +kernel
theorem dX0_startOver_17 : decode cX0_startOver 17 = .ok (.putfield 24, 3) := by decide +kernel
theorem dX0_startOver_20 : decode cX0_startOver 20 = .ok (.aload_n 0, 1) := by decide +kernel
theorem dX0_startOver_21 : decode cX0_startOver 21 = .ok (.iconst 0, 1) := by decide +kernel
theorem dX0_startOver_22 : decode cX0_startOver 22 = .ok (.putfield 27, 3) := by decide +kernel
theorem dX0_startOver_25 : decode cX0_startOver 25 = .ok (.aload_n 0, 1) := by decide +kernel
theorem dX0_startOver_26 : decode cX0_startOver 26 = .ok (.iconst 0, 1) := by decide +kernel
theorem dX0_startOver_27 : decode cX0_startOver 27 = .ok (.putfield 30, 3) := by decide +kernel
theorem dX0_startOver_30 : decode cX0_startOver 30 = .ok (.iconst 0, 1) := by decide +kernel
theorem dX0_startOver_31 : decode cX0_startOver 31 = .ok (.istore_n 1, 1) := by decide +kernel
theorem dX0_startOver_32 : decode cX0_startOver 32 = .ok (.iload_n 1, 1) := by decide +kernel
theorem dX0_startOver_33 : decode cX0_startOver 33 = .ok (.bipush 12, 2) := by decide +kernel
theorem dX0_startOver_35 : decode cX0_startOver 35 = .ok (.if_icmp .ge 30, 3) := by decide +kernel
theorem dX0_startOver_38 : decode cX0_startOver 38 = .ok (.aload_n 0, 1) := by decide +kernel
theorem dX0_startOver_39 : decode cX0_startOver 39 = .ok (.getfield 33, 3) := by decide +kernel
theorem dX0_startOver_42 : decode cX0_startOver 42 = .ok (.iload_n 1, 1) := by decide +kernel
theorem dX0_startOver_43 : decode cX0_startOver 43 = .ok (.iconst 0, 1) := by decide +kernel
theorem dX0_startOver_44 : decode cX0_startOver 44 = .ok (.bastore, 1) := by decide +kernel
theorem dX0_startOver_45 : decode cX0_startOver 45 = .ok (.aload_n 0, 1) := by decide +kernel
theorem dX0_startOver_46 : decode cX0_startOver 46 = .ok (.getfield 37, 3) := by decide +kernel
theorem dX0_startOver_49 : decode cX0_startOver 49 = .ok (.iload_n 1, 1) := by decide +kernel
theorem dX0_startOver_50 : decode cX0_startOver 50 = .ok (.iconst 0, 1) := by decide +kernel
theorem dX0_startOver_51 : decode cX0_startOver 51 = .ok (.iastore, 1) := by decide +kernel
theorem dX0_startOver_52 : decode cX0_startOver 52 = .ok (.aload_n 0, 1) := by decide +kernel
theorem dX0_startOver_53 : decode cX0_startOver 53 = .ok (.getfield 41, 3) := by decide +kernel
theorem dX0_startOver_56 : decode cX0_startOver 56 = .ok (.iload_n 1, 1) := by decide +kernel
theorem dX0_startOver_57 : decode cX0_startOver 57 = .ok (.iconst 0, 1) := by decide +kernel
theorem dX0_startOver_58 : decode cX0_startOver 58 = .ok (.iastore, 1) := by decide +kernel
theorem dX0_startOver_59 : decode cX0_startOver 59 = .ok (.iinc 1 1, 3) := by decide +kernel
theorem dX0_startOver_62 : decode cX0_startOver 62 = .ok (.goto (-30), 3) := by decide +kernel
theorem dX0_startOver_65 : decode cX0_startOver 65 = .ok (.return_, 1) := by decide +kernel
theorem dX0_passHour_0 : decode cX0_passHour 0 = .ok (.iconst (-1), 1) := by decide +kernel
theorem dX0_passHour_1 : decode cX0_passHour 1 = .ok (.istore_n 1, 1) := by decide +kernel
theorem dX0_passHour_2 : decode cX0_passHour 2 = .ok (.aload_n 0, 1) := by decide +kernel
theorem dX0_passHour_3 : decode cX0_passHour 3 = .ok (.getfield 21, 3) := by decide +kernel
theorem dX0_passHour_6 : decode cX0_passHour 6 = .ok (.ifCond .le 10, 3) := by decide +kernel
theorem dX0_passHour_9 : decode cX0_passHour 9 = .ok (.aload_n 0, 1) := by decide +kernel
theorem dX0_passHour_10 : decode cX0_passHour 10 = .ok (.invokevirtual 57, 3) := by decide +kernel
theorem dX0_passHour_13 : decode cX0_passHour 13 = .ok (.goto 19, 3) := by decide +kernel
theorem dX0_passHour_16 : decode cX0_passHour 16 = .ok (.aload_n 0, 1) := by decide +kernel
theorem dX0_passHour_17 : decode cX0_passHour 17 = .ok (.invokevirtual 60, 3) := by decide +kernel
theorem dX0_passHour_20 : decode cX0_passHour 20 = .ok (.ifCond .le 12, 3) := by decide +kernel
theorem dX0_passHour_23 : decode cX0_passHour 23 = .ok (.aload_n 0, 1) := by decide +kernel
theorem dX0_passHour_24 : decode cX0_passHour 24 = .ok (.invokevirtual 64, 3) := by decide +kernel
theorem dX0_passHour_27 : decode cX0_passHour 27 = .ok (.aload_n 0, 1) := by decide +kernel
theorem dX0_passHour_28 : decode cX0_passHour 28 = .ok (.invokevirtual 67, 3) := by decide +kernel
theorem dX0_passHour_31 : decode cX0_passHour 31 = .ok (.istore_n 1, 1) := by decide +kernel
theorem dX0_passHour_32 : decode cX0_passHour 32 = .ok (.iload_n 1, 1) := by decide +kernel
theorem dX0_passHour_33 : decode cX0_passHour 33 = .ok (.iconst (-1), 1) := by decide +kernel
theorem dX0_passHour_34 : decode cX0_passHour 34 = .ok (.if_icmp .ne 7, 3) := by decide +kernel
theorem dX0_passHour_37 : decode cX0_passHour 37 = .ok (.aload_n 0, 1) := by decide +kernel
theorem dX0_passHour_38 : decode cX0_passHour 38 = .ok (.invokevirtual 70, 3) := by decide +kernel
theorem dX0_passHour_41 : decode cX0_passHour 41 = .ok (.aload_n 0, 1) := by decide +kernel
theorem dX0_passHour_42 : decode cX0_passHour 42 = .ok (.invokevirtual 60, 3) := by decide +kernel
theorem dX0_passHour_45 : decode cX0_passHour 45 = .ok (.ifCond .ne 8, 3) := by decide +kernel
theorem dX0_passHour_48 : decode cX0_passHour 48 = .ok (.aload_n 0, 1) := by decide +kernel
theorem dX0_passHour_49 : decode cX0_passHour 49 = .ok (.iconst 0, 1) := by decide +kernel
theorem dX0_passHour_50 : decode cX0_passHour 50 = .ok (.putfield 18, 3) := by decide +kernel
theorem dX0_passHour_53 : decode cX0_passHour 53 = .ok (.aload_n 0, 1) := by decide +kernel
theorem dX0_passHour_54 : decode cX0_passHour 54 = .ok (.invokevirtual 73, 3) := by decide +kernel
theorem dX0_passHour_57 : decode cX0_passHour 57 = .ok (.aload_n 0, 1) := by decide +kernel
theorem dX0_passHour_58 : decode cX0_passHour 58 = .ok (.dup, 1) := by decide +kernel
theorem dX0_passHour_59 : decode cX0_passHour 59 = .ok (.getfield 9, 3) := by decide +kernel
theorem dX0_passHour_62 : decode cX0_passHour 62 = .ok (.iconst 1, 1) := by decide +kernel
theorem dX0_passHour_63 : decode cX0_passHour 63 = .ok (.iadd, 1) := by decide +kernel
theorem dX0_passHour_64 : decode cX0_passHour 64 = .ok (.putfield 9, 3) := by decide +kernel
theorem dX0_passHour_67 : decode cX0_passHour 67 = .ok (.iload_n 1, 1) := by decide +kernel
theorem dX0_passHour_68 : decode cX0_passHour 68 = .ok (.ireturn, 1) := by decide +kernel
theorem dX0_waitStuck_0 : decode cX0_waitStuck 0 = .ok (.aload_n 0, 1) := by decide +kernel
theorem dX0_waitStuck_1 : decode cX0_waitStuck 1 = .ok (.dup, 1) := by decide +kernel
theorem dX0_waitStuck_2 : decode cX0_waitStuck 2 = .ok (.getfield 21, 3) := by decide +kernel
theorem dX0_waitStuck_5 : decode cX0_waitStuck 5 = .ok (.iconst 1, 1) := by decide +kernel
theorem dX0_waitStuck_6 : decode cX0_waitStuck 6 = .ok (.isub, 1) := by decide +kernel
theorem dX0_waitStuck_7 : decode cX0_waitStuck 7 = .ok (.putfield 21, 3) := by decide +kernel
theorem dX0_waitStuck_10 : decode cX0_waitStuck 10 = .ok (.aload_n 0, 1) := by decide +kernel
theorem dX0_waitStuck_11 : decode cX0_waitStuck 11 = .ok (.dup, 1) := by decide +kernel
theorem dX0_waitStuck_12 : decode cX0_waitStuck 12 = .ok (.getfield 27, 3) := by decide +kernel
theorem dX0_waitStuck_15 : decode cX0_waitStuck 15 = .ok (.iconst 1, 1) := by decide +kernel
theorem dX0_waitStuck_16 : decode cX0_waitStuck 16 = .ok (.aload_n 0, 1) := by decide +kernel
theorem dX0_waitStuck_17 : decode cX0_waitStuck 17 = .ok (.getfield 30, 3) := by decide +kernel
theorem dX0_waitStuck_20 : decode cX0_waitStuck 20 = .ok (.iadd, 1) := by decide +kernel
theorem dX0_waitStuck_21 : decode cX0_waitStuck 21 = .ok (.iadd, 1) := by decide +kernel
theorem dX0_waitStuck_22 : decode cX0_waitStuck 22 = .ok (.putfield 27, 3) := by decide +kernel
theorem dX0_waitStuck_25 : decode cX0_waitStuck 25 = .ok (.return_, 1) := by decide +kernel
theorem dX0_ride_0 : decode cX0_ride 0 = .ok (.aload_n 0, 1) := by decide +kernel
theorem dX0_ride_1 : decode cX0_ride 1 = .ok (.aload_n 0, 1) := by decide +kernel
theorem dX0_ride_2 : decode cX0_ride 2 = .ok (.getfield 15, 3) := by decide +kernel
theorem dX0_ride_5 : decode cX0_ride 5 = .ok (.invokevirtual 79, 3) := by decide +kernel
theorem dX0_ride_8 : decode cX0_ride 8 = .ok (.ifCond .eq 4, 3) := by decide +kernel
theorem dX0_ride_11 : decode cX0_ride 11 = .ok (.return_, 1) := by decide +kernel
theorem dX0_ride_12 : decode cX0_ride 12 = .ok (.aload_n 0, 1) := by decide +kernel
theorem dX0_ride_13 : decode cX0_ride 13 = .ok (.getfield 18, 3) := by decide +kernel
theorem dX0_ride_16 : decode cX0_ride 16 = .ok (.ifCond .le 10, 3) := by decide +kernel
theorem dX0_ride_19 : decode cX0_ride 19 = .ok (.aload_n 0, 1) := by decide +kernel
theorem dX0_ride_20 : decode cX0_ride 20 = .ok (.invokevirtual 83, 3) := by decide +kernel
theorem dX0_ride_23 : decode cX0_ride 23 = .ok (.ifCond .ne 17, 3) := by decide +kernel
theorem dX0_ride_26 : decode cX0_ride 26 = .ok (.aload_n 0, 1) := by decide +kernel
theorem dX0_ride_27 : decode cX0_ride 27 = .ok (.getfield 18, 3) := by decide +kernel
theorem dX0_ride_30 : decode cX0_ride 30 = .ok (.ifCond .ge 14, 3) := by decide +kernel
theorem dX0_ride_33 : decode cX0_ride 33 = .ok (.aload_n 0, 1) := by decide +kernel
theorem dX0_ride_34 : decode cX0_ride 34 = .ok (.invokevirtual 87, 3) := by decide +kernel
theorem dX0_ride_37 : decode cX0_ride 37 = .ok (.ifCond .eq 7, 3) := by decide +kernel
theorem dX0_ride_40 : decode cX0_ride 40 = .ok (.iconst 1, 1) := by decide +kernel
theorem dX0_ride_41 : decode cX0_ride 41 = .ok (.goto 4, 3) := by decide +kernel
theorem dX0_ride_44 : decode cX0_ride 44 = .ok (.iconst 0, 1) := by decide +kernel
theorem dX0_ride_45 : decode cX0_ride 45 = .ok (.istore_n 1, 1) := by decide +kernel
theorem dX0_ride_46 : decode cX0_ride 46 = .ok (.iload_n 1, 1) := by decide +kernel
theorem dX0_ride_47 : decode cX0_ride 47 = .ok (.ifCond .ne 11, 3) := by decide +kernel
theorem dX0_ride_50 : decode cX0_ride 50 = .ok (.aload_n 0, 1) := by decide +kernel
theorem dX0_ride_51 : decode cX0_ride 51 = .ok (.aload_n 0, 1) := by decide +kernel
theorem dX0_ride_52 : decode cX0_ride 52 = .ok (.invokevirtual 90, 3) := by decide +kernel
theorem dX0_ride_55 : decode cX0_ride 55 = .ok (.putfield 18, 3) := by decide +kernel
theorem dX0_ride_58 : decode cX0_ride 58 = .ok (.aload_n 0, 1) := by decide +kernel
theorem dX0_ride_59 : decode cX0_ride 59 = .ok (.dup, 1) := by decide +kernel
theorem dX0_ride_60 : decode cX0_ride 60 = .ok (.getfield 15, 3) := by decide +kernel
theorem dX0_ride_63 : decode cX0_ride 63 = .ok (.aload_n 0, 1) := by decide +kernel
theorem dX0_ride_64 : decode cX0_ride 64 = .ok (.getfield 18, 3) := by decide +kernel
theorem dX0_ride_67 : decode cX0_ride 67 = .ok (.iadd, 1) := by decide +kernel
theorem dX0_ride_68 : decode cX0_ride 68 = .ok (.putfield 15, 3) := by decide +kernel
theorem dX0_ride_71 : decode cX0_ride 71 = .ok (.aload_n 0, 1) := by decide +kernel
theorem dX0_ride_72 : decode cX0_ride 72 = .ok (.dup, 1) := by decide +kernel
theorem dX0_ride_73 : decode cX0_ride 73 = .ok (.getfield 24, 3) := by decide +kernel
theorem dX0_ride_76 : decode cX0_ride 76 = .ok (.iconst 1, 1) := by decide +kernel
theorem dX0_ride_77 : decode cX0_ride 77 = .ok (.iadd, 1) := by decide +kernel
theorem dX0_ride_78 : decode cX0_ride 78 = .ok (.putfield 24, 3) := by decide +kernel
theorem dX0_ride_81 : decode cX0_ride 81 = .ok (.return_, 1) := by decide +kernel
theorem dX0_wayToNearestCall_0 : decode cX0_wayToNearestCall 0 = .ok (.iconst 1, 1) := by decide +kernel
theorem dX0_wayToNearestCall_1 : decode cX0_wayToNearestCall 1 = .ok (.istore_n 1, 1) := by decide +kernel
theorem dX0_wayToNearestCall_2 : decode cX0_wayToNearestCall 2 = .ok (.iload_n 1, 1) := by decide +kernel
theorem dX0_wayToNearestCall_3 : decode cX0_wayToNearestCall 3 = .ok (.bipush 12, 2) := by decide +kernel
theorem dX0_wayToNearestCall_5 : decode cX0_wayToNearestCall 5 = .ok (.if_icmp .ge 39, 3) := by decide +kernel
theorem dX0_wayToNearestCall_8 : decode cX0_wayToNearestCall 8 = .ok (.aload_n 0, 1) := by decide +kernel
theorem dX0_wayToNearestCall_9 : decode cX0_wayToNearestCall 9 = .ok (.aload_n 0, 1) := by decide +kernel
theorem dX0_wayToNearestCall_10 : decode cX0_wayToNearestCall 10 = .ok (.getfield 15, 3) := by decide +kernel
theorem dX0_wayToNearestCall_13 : decode cX0_wayToNearestCall 13 = .ok (.iload_n 1, 1) := by decide +kernel
theorem dX0_wayToNearestCall_14 : decode cX0_wayToNearestCall 14 = .ok (.iadd, 1) := by decide +kernel
theorem dX0_wayToNearestCall_15 : decode cX0_wayToNearestCall 15 = .ok (.invokevirtual 79, 3) := by decide +kernel
theorem dX0_wayToNearestCall_18 : decode cX0_wayToNearestCall 18 = .ok (.ifCond .eq 5, 3) := by decide +kernel
theorem dX0_wayToNearestCall_21 : decode cX0_wayToNearestCall 21 = .ok (.iconst 1, 1) := by decide +kernel
theorem dX0_wayToNearestCall_22 : decode cX0_wayToNearestCall 22 = .ok (.ireturn, 1) := by decide +kernel
theorem dX0_wayToNearestCall_23 : decode cX0_wayToNearestCall 23 = .ok (.aload_n 0, 1) := by decide +kernel
theorem dX0_wayToNearestCall_24 : decode cX0_wayToNearestCall 24 = .ok (.aload_n 0, 1) := by decide +kernel
theorem dX0_wayToNearestCall_25 : decode cX0_wayToNearestCall 25 = .ok (.getfield 15, 3) := by decide +kernel
theorem dX0_wayToNearestCall_28 : decode cX0_wayToNearestCall 28 = .ok (.iload_n 1, 1) := by decide +kernel
theorem dX0_wayToNearestCall_29 : decode cX0_wayToNearestCall 29 = .ok (.isub, 1) := by decide +kernel
theorem dX0_wayToNearestCall_30 : decode cX0_wayToNearestCall 30 = .ok (.invokevirtual 79, 3) := by decide +kernel
theorem dX0_wayToNearestCall_33 : decode cX0_wayToNearestCall 33 = .ok (.ifCond .eq 5, 3) := by decide +kernel
theorem dX0_wayToNearestCall_36 : decode cX0_wayToNearestCall 36 = .ok (.iconst (-1), 1) := by decide +kernel
theorem dX0_wayToNearestCall_37 : decode cX0_wayToNearestCall 37 = .ok (.ireturn, 1) := by decide +kernel
theorem dX0_wayToNearestCall_38 : decode cX0_wayToNearestCall 38 = .ok (.iinc 1 1, 3) := by decide +kernel
theorem dX0_wayToNearestCall_41 : decode cX0_wayToNearestCall 41 = .ok (.goto (-39), 3) := by decide +kernel
theorem dX0_wayToNearestCall_44 : decode cX0_wayToNearestCall 44 = .ok (.iconst 0, 1) := by decide +kernel
theorem dX0_wayToNearestCall_45 : decode cX0_wayToNearestCall 45 = .ok (.ireturn, 1) := by decide +kernel
theorem dX0_hasCall_0 : decode cX0_hasCall 0 = .ok (.iload_n 1, 1) := by decide +kernel
theorem dX0_hasCall_1 : decode cX0_hasCall 1 = .ok (.ifCond .lt 22, 3) := by decide +kernel
theorem dX0_hasCall_4 : decode cX0_hasCall 4 = .ok (.iload_n 1, 1) := by decide +kernel
theorem dX0_hasCall_5 : decode cX0_hasCall 5 = .ok (.bipush 12, 2) := by decide +kernel
theorem dX0_hasCall_7 : decode cX0_hasCall 7 = .ok (.if_icmp .ge 16, 3) := by decide +kernel
theorem dX0_hasCall_10 : decode cX0_hasCall 10 = .ok (.aload_n 0, 1) := by decide +kernel
theorem dX0_hasCall_11 : decode cX0_hasCall 11 = .ok (.getfield 33, 3) := by decide +kernel
theorem dX0_hasCall_14 : decode cX0_hasCall 14 = .ok (.iload_n 1, 1) := by decide +kernel
theorem dX0_hasCall_15 : decode cX0_hasCall 15 = .ok (.baload, 1) := by decide +kernel
theorem dX0_hasCall_16 : decode cX0_hasCall 16 = .ok (.ifCond .eq 7, 3) := by decide +kernel
theorem dX0_hasCall_19 : decode cX0_hasCall 19 = .ok (.iconst 1, 1) := by decide +kernel
theorem dX0_hasCall_20 : decode cX0_hasCall 20 = .ok (.goto 4, 3) := by decide +kernel
theorem dX0_hasCall_23 : decode cX0_hasCall 23 = .ok (.iconst 0, 1) := by decide +kernel
theorem dX0_hasCall_24 : decode cX0_hasCall 24 = .ok (.ireturn, 1) := by decide +kernel
theorem dX0_hasCallAbove_0 : decode cX0_hasCallAbove 0 = .ok (.aload_n 0, 1) := by decide +kernel
theorem dX0_hasCallAbove_1 : decode cX0_hasCallAbove 1 = .ok (.getfield 15, 3) := by decide +kernel
theorem dX0_hasCallAbove_4 : decode cX0_hasCallAbove 4 = .ok (.iconst 1, 1) := by decide +kernel
theorem dX0_hasCallAbove_5 : decode cX0_hasCallAbove 5 = .ok (.iadd, 1) := by decide +kernel
theorem dX0_hasCallAbove_6 : decode cX0_hasCallAbove 6 = .ok (.istore_n 1, 1) := by decide +kernel
theorem dX0_hasCallAbove_7 : decode cX0_hasCallAbove 7 = .ok (.iload_n 1, 1) := by decide +kernel
theorem dX0_hasCallAbove_8 : decode cX0_hasCallAbove 8 = .ok (.bipush 12, 2) := by decide +kernel
theorem dX0_hasCallAbove_10 : decode cX0_hasCallAbove 10 = .ok (.if_icmp .ge 20, 3) := by decide +kernel
theorem dX0_hasCallAbove_13 : decode cX0_hasCallAbove 13 = .ok (.aload_n 0, 1) := by decide +kernel
theorem dX0_hasCallAbove_14 : decode cX0_hasCallAbove 14 = .ok (.getfield 33, 3) := by decide +kernel
theorem dX0_hasCallAbove_17 : decode cX0_hasCallAbove 17 = .ok (.iload_n 1, 1) := by decide +kernel
theorem dX0_hasCallAbove_18 : decode cX0_hasCallAbove 18 = .ok (.baload, 1) := by decide +kernel
theorem dX0_hasCallAbove_19 : decode cX0_hasCallAbove 19 = .ok (.ifCond .eq 5, 3) := by decide +kernel
theorem dX0_hasCallAbove_22 : decode cX0_hasCallAbove 22 = .ok (.iconst 1, 1) := by decide +kernel
theorem dX0_hasCallAbove_23 : decode cX0_hasCallAbove 23 = .ok (.ireturn, 1) := by decide +kernel
theorem dX0_hasCallAbove_24 : decode cX0_hasCallAbove 24 = .ok (.iinc 1 1, 3) := by decide +kernel
theorem dX0_hasCallAbove_27 : decode cX0_hasCallAbove 27 = .ok (.goto (-20), 3) := by decide +kernel
theorem dX0_hasCallAbove_30 : decode cX0_hasCallAbove 30 = .ok (.iconst 0, 1) := by decide +kernel
theorem dX0_hasCallAbove_31 : decode cX0_hasCallAbove 31 = .ok (.ireturn, 1) := by decide +kernel
theorem dX0_hasCallBelow_0 : decode cX0_hasCallBelow 0 = .ok (.iconst 0, 1) := by decide +kernel
theorem dX0_hasCallBelow_1 : decode cX0_hasCallBelow 1 = .ok (.istore_n 1, 1) := by decide +kernel
theorem dX0_hasCallBelow_2 : decode cX0_hasCallBelow 2 = .ok (.iload_n 1, 1) := by decide +kernel
theorem dX0_hasCallBelow_3 : decode cX0_hasCallBelow 3 = .ok (.aload_n 0, 1) := by decide +kernel
theorem dX0_hasCallBelow_4 : decode cX0_hasCallBelow 4 = .ok (.getfield 15, 3) := by decide +kernel
theorem dX0_hasCallBelow_7 : decode cX0_hasCallBelow 7 = .ok (.if_icmp .ge 20, 3) := by decide +kernel
theorem dX0_hasCallBelow_10 : decode cX0_hasCallBelow 10 = .ok (.aload_n 0, 1) := by decide +kernel
theorem dX0_hasCallBelow_11 : decode cX0_hasCallBelow 11 = .ok (.getfield 33, 3) := by decide +kernel
theorem dX0_hasCallBelow_14 : decode cX0_hasCallBelow 14 = .ok (.iload_n 1, 1) := by decide +kernel
theorem dX0_hasCallBelow_15 : decode cX0_hasCallBelow 15 = .ok (.baload, 1) := by decide +kernel
theorem dX0_hasCallBelow_16 : decode cX0_hasCallBelow 16 = .ok (.ifCond .eq 5, 3) := by decide +kernel
theorem dX0_hasCallBelow_19 : decode cX0_hasCallBelow 19 = .ok (.iconst 1, 1) := by decide +kernel
theorem dX0_hasCallBelow_20 : decode cX0_hasCallBelow 20 = .ok (.ireturn, 1) := by decide +kernel
theorem dX0_hasCallBelow_21 : decode cX0_hasCallBelow 21 = .ok (.iinc 1 1, 3) := by decide +kernel
theorem dX0_hasCallBelow_24 : decode cX0_hasCallBelow 24 = .ok (.goto (-22), 3) := by decide +kernel
theorem dX0_hasCallBelow_27 : decode cX0_hasCallBelow 27 = .ok (.iconst 0, 1) := by decide +kernel
theorem dX0_hasCallBelow_28 : decode cX0_hasCallBelow 28 = .ok (.ireturn, 1) := by decide +kernel
theorem dX0_stopIfCalled_0 : decode cX0_stopIfCalled 0 = .ok (.aload_n 0, 1) := by decide +kernel
theorem dX0_stopIfCalled_1 : decode cX0_stopIfCalled 1 = .ok (.aload_n 0, 1) := by decide +kernel
theorem dX0_stopIfCalled_2 : decode cX0_stopIfCalled 2 = .ok (.getfield 15, 3) := by decide +kernel
theorem dX0_stopIfCalled_5 : decode cX0_stopIfCalled 5 = .ok (.invokevirtual 79, 3) := by decide +kernel
theorem dX0_stopIfCalled_8 : decode cX0_stopIfCalled 8 = .ok (.ifCond .ne 5, 3) := by decide +kernel
theorem dX0_stopIfCalled_11 : decode cX0_stopIfCalled 11 = .ok (.iconst (-1), 1) := by decide +kernel
theorem dX0_stopIfCalled_12 : decode cX0_stopIfCalled 12 = .ok (.ireturn, 1) := by decide +kernel
theorem dX0_stopIfCalled_13 : decode cX0_stopIfCalled 13 = .ok (.aload_n 0, 1) := by decide +kernel
theorem dX0_stopIfCalled_14 : decode cX0_stopIfCalled 14 = .ok (.getfield 33, 3) := by decide +kernel
theorem dX0_stopIfCalled_17 : decode cX0_stopIfCalled 17 = .ok (.aload_n 0, 1) := by decide +kernel
theorem dX0_stopIfCalled_18 : decode cX0_stopIfCalled 18 = .ok (.getfield 15, 3) := by decide +kernel
theorem dX0_stopIfCalled_21 : decode cX0_stopIfCalled 21 = .ok (.iconst 0, 1) := by decide +kernel
theorem dX0_stopIfCalled_22 : decode cX0_stopIfCalled 22 = .ok (.bastore, 1) := by decide +kernel
theorem dX0_stopIfCalled_23 : decode cX0_stopIfCalled 23 = .ok (.aload_n 0, 1) := by decide +kernel
theorem dX0_stopIfCalled_24 : decode cX0_stopIfCalled 24 = .ok (.getfield 37, 3) := by decide +kernel
theorem dX0_stopIfCalled_27 : decode cX0_stopIfCalled 27 = .ok (.aload_n 0, 1) := by decide +kernel
theorem dX0_stopIfCalled_28 : decode cX0_stopIfCalled 28 = .ok (.getfield 15, 3) := by decide +kernel
theorem dX0_stopIfCalled_31 : decode cX0_stopIfCalled 31 = .ok (.iaload, 1) := by decide +kernel
theorem dX0_stopIfCalled_32 : decode cX0_stopIfCalled 32 = .ok (.istore_n 1, 1) := by decide +kernel
theorem dX0_stopIfCalled_33 : decode cX0_stopIfCalled 33 = .ok (.iload_n 1, 1) := by decide +kernel
theorem dX0_stopIfCalled_34 : decode cX0_stopIfCalled 34 = .ok (.aload_n 0, 1) := by decide +kernel
theorem dX0_stopIfCalled_35 : decode cX0_stopIfCalled 35 = .ok (.getfield 53, 3) := by decide +kernel
theorem dX0_stopIfCalled_38 : decode cX0_stopIfCalled 38 = .ok (.getfield 93, 3) := by decide +kernel
theorem dX0_stopIfCalled_41 : decode cX0_stopIfCalled 41 = .ok (.aload_n 0, 1) := by decide +kernel
theorem dX0_stopIfCalled_42 : decode cX0_stopIfCalled 42 = .ok (.getfield 15, 3) := by decide +kernel
theorem dX0_stopIfCalled_45 : decode cX0_stopIfCalled 45 = .ok (.iaload, 1) := by decide +kernel
theorem dX0_stopIfCalled_46 : decode cX0_stopIfCalled 46 = .ok (.if_icmp .lt 5, 3) := by decide +kernel
theorem dX0_stopIfCalled_49 : decode cX0_stopIfCalled 49 = .ok (.iconst (-1), 1) := by decide +kernel
theorem dX0_stopIfCalled_50 : decode cX0_stopIfCalled 50 = .ok (.ireturn, 1) := by decide +kernel
theorem dX0_stopIfCalled_51 : decode cX0_stopIfCalled 51 = .ok (.aload_n 0, 1) := by decide +kernel
theorem dX0_stopIfCalled_52 : decode cX0_stopIfCalled 52 = .ok (.getfield 37, 3) := by decide +kernel
theorem dX0_stopIfCalled_55 : decode cX0_stopIfCalled 55 = .ok (.aload_n 0, 1) := by decide +kernel
theorem dX0_stopIfCalled_56 : decode cX0_stopIfCalled 56 = .ok (.getfield 15, 3) := by decide +kernel
theorem dX0_stopIfCalled_59 : decode cX0_stopIfCalled 59 = .ok (.iload_n 1, 1) := by decide +kernel
theorem dX0_stopIfCalled_60 : decode cX0_stopIfCalled 60 = .ok (.iconst 1, 1) := by decide +kernel
theorem dX0_stopIfCalled_61 : decode cX0_stopIfCalled 61 = .ok (.iadd, 1) := by decide +kernel
theorem dX0_stopIfCalled_62 : decode cX0_stopIfCalled 62 = .ok (.iastore, 1) := by decide +kernel
theorem dX0_stopIfCalled_63 : decode cX0_stopIfCalled 63 = .ok (.aload_n 0, 1) := by decide +kernel
theorem dX0_stopIfCalled_64 : decode cX0_stopIfCalled 64 = .ok (.getfield 53, 3) := by decide +kernel
theorem dX0_stopIfCalled_67 : decode cX0_stopIfCalled 67 = .ok (.aload_n 0, 1) := by decide +kernel
theorem dX0_stopIfCalled_68 : decode cX0_stopIfCalled 68 = .ok (.getfield 15, 3) := by decide +kernel
theorem dX0_stopIfCalled_71 : decode cX0_stopIfCalled 71 = .ok (.iload_n 1, 1) := by decide +kernel
theorem dX0_stopIfCalled_72 : decode cX0_stopIfCalled 72 = .ok (.invokevirtual 98, 3) := by decide +kernel
theorem dX0_stopIfCalled_75 : decode cX0_stopIfCalled 75 = .ok (.istore_n 2, 1) := by decide +kernel
theorem dX0_stopIfCalled_76 : decode cX0_stopIfCalled 76 = .ok (.aload_n 0, 1) := by decide +kernel
theorem dX0_stopIfCalled_77 : decode cX0_stopIfCalled 77 = .ok (.getfield 44, 3) := by decide +kernel
theorem dX0_stopIfCalled_80 : decode cX0_stopIfCalled 80 = .ok (.iload_n 2, 1) := by decide +kernel
theorem dX0_stopIfCalled_81 : decode cX0_stopIfCalled 81 = .ok (.baload, 1) := by decide +kernel
theorem dX0_stopIfCalled_82 : decode cX0_stopIfCalled 82 = .ok (.ifCond .eq 18, 3) := by decide +kernel
theorem dX0_stopIfCalled_85 : decode cX0_stopIfCalled 85 = .ok (.aload_n 0, 1) := by decide +kernel
theorem dX0_stopIfCalled_86 : decode cX0_stopIfCalled 86 = .ok (.getfield 41, 3) := by decide +kernel
theorem dX0_stopIfCalled_89 : decode cX0_stopIfCalled 89 = .ok (.aload_n 0, 1) := by decide +kernel
theorem dX0_stopIfCalled_90 : decode cX0_stopIfCalled 90 = .ok (.getfield 15, 3) := by decide +kernel
theorem dX0_stopIfCalled_93 : decode cX0_stopIfCalled 93 = .ok (.dup2, 1) := by decide +kernel
theorem dX0_stopIfCalled_94 : decode cX0_stopIfCalled 94 = .ok (.iaload, 1) := by decide +kernel
theorem dX0_stopIfCalled_95 : decode cX0_stopIfCalled 95 = .ok (.iconst 1, 1) := by decide +kernel
theorem dX0_stopIfCalled_96 : decode cX0_stopIfCalled 96 = .ok (.iadd, 1) := by decide +kernel
theorem dX0_stopIfCalled_97 : decode cX0_stopIfCalled 97 = .ok (.iastore, 1) := by decide +kernel
theorem dX0_stopIfCalled_98 : decode cX0_stopIfCalled 98 = .ok (.iconst (-1), 1) := by decide +kernel
theorem dX0_stopIfCalled_99 : decode cX0_stopIfCalled 99 = .ok (.ireturn, 1) := by decide +kernel
theorem dX0_stopIfCalled_100 : decode cX0_stopIfCalled 100 = .ok (.aload_n 0, 1) := by decide +kernel
theorem dX0_stopIfCalled_101 : decode cX0_stopIfCalled 101 = .ok (.iload_n 2, 1) := by decide +kernel
theorem dX0_stopIfCalled_102 : decode cX0_stopIfCalled 102 = .ok (.aload_n 0, 1) := by decide +kernel
theorem dX0_stopIfCalled_103 : decode cX0_stopIfCalled 103 = .ok (.getfield 53, 3) := by decide +kernel
theorem dX0_stopIfCalled_106 : decode cX0_stopIfCalled 106 = .ok (.aload_n 0, 1) := by decide +kernel
theorem dX0_stopIfCalled_107 : decode cX0_stopIfCalled 107 = .ok (.getfield 15, 3) := by decide +kernel
theorem dX0_stopIfCalled_110 : decode cX0_stopIfCalled 110 = .ok (.iload_n 1, 1) := by decide +kernel
theorem dX0_stopIfCalled_111 : decode cX0_stopIfCalled 111 = .ok (.invokevirtual 102, 3) := by decide +kernel
theorem dX0_stopIfCalled_114 : decode cX0_stopIfCalled 114 = .ok (.invokevirtual 105, 3) := by decide +kernel
theorem dX0_stopIfCalled_117 : decode cX0_stopIfCalled 117 = .ok (.ireturn, 1) := by decide +kernel
theorem dX0_print_0 : decode cX0_print 0 = .ok (.iload_n 2, 1) := by decide +kernel
theorem dX0_print_1 : decode cX0_print 1 = .ok (.aload_n 0, 1) := by decide +kernel
theorem dX0_print_2 : decode cX0_print 2 = .ok (.getfield 27, 3) := by decide +kernel
theorem dX0_print_5 : decode cX0_print 5 = .ok (.iadd, 1) := by decide +kernel
theorem dX0_print_6 : decode cX0_print 6 = .ok (.istore_n 3, 1) := by decide +kernel
theorem dX0_print_7 : decode cX0_print 7 = .ok (.aload_n 0, 1) := by decide +kernel
theorem dX0_print_8 : decode cX0_print 8 = .ok (.iconst 0, 1) := by decide +kernel
theorem dX0_print_9 : decode cX0_print 9 = .ok (.putfield 27, 3) := by decide +kernel
theorem dX0_print_12 : decode cX0_print 12 = .ok (.aload_n 0, 1) := by decide +kernel
theorem dX0_print_13 : decode cX0_print 13 = .ok (.iload_n 2, 1) := by decide +kernel
theorem dX0_print_14 : decode cX0_print 14 = .ok (.putfield 30, 3) := by decide +kernel
theorem dX0_print_17 : decode cX0_print 17 = .ok (.iconst 0, 1) := by decide +kernel
theorem dX0_print_18 : decode cX0_print 18 = .ok (.istore 4, 2) := by decide +kernel
theorem dX0_print_20 : decode cX0_print 20 = .ok (.iload 4, 2) := by decide +kernel
theorem dX0_print_22 : decode cX0_print 22 = .ok (.aload_n 0, 1) := by decide +kernel
theorem dX0_print_23 : decode cX0_print 23 = .ok (.getfield 53, 3) := by decide +kernel
theorem dX0_print_26 : decode cX0_print 26 = .ok (.getfield 108, 3) := by decide +kernel
theorem dX0_print_29 : decode cX0_print 29 = .ok (.if_icmp .ge 64, 3) := by decide +kernel
theorem dX0_print_32 : decode cX0_print 32 = .ok (.aload_n 0, 1) := by decide +kernel
theorem dX0_print_33 : decode cX0_print 33 = .ok (.getfield 50, 3) := by decide +kernel
theorem dX0_print_36 : decode cX0_print 36 = .ok (.iload 4, 2) := by decide +kernel
theorem dX0_print_38 : decode cX0_print 38 = .ok (.baload, 1) := by decide +kernel
theorem dX0_print_39 : decode cX0_print 39 = .ok (.ifCond .eq 48, 3) := by decide +kernel
theorem dX0_print_42 : decode cX0_print 42 = .ok (.aload_n 0, 1) := by decide +kernel
theorem dX0_print_43 : decode cX0_print 43 = .ok (.getfield 53, 3) := by decide +kernel
theorem dX0_print_46 : decode cX0_print 46 = .ok (.getfield 111, 3) := by decide +kernel
theorem dX0_print_49 : decode cX0_print 49 = .ok (.iload 4, 2) := by decide +kernel
theorem dX0_print_51 : decode cX0_print 51 = .ok (.iaload, 1) := by decide +kernel
theorem dX0_print_52 : decode cX0_print 52 = .ok (.iload_n 1, 1) := by decide +kernel
theorem dX0_print_53 : decode cX0_print 53 = .ok (.if_icmp .ne 7, 3) := by decide +kernel
theorem dX0_print_56 : decode cX0_print 56 = .ok (.iload_n 3, 1) := by decide +kernel
theorem dX0_print_57 : decode cX0_print 57 = .ok (.goto 6, 3) := by decide +kernel
theorem dX0_print_60 : decode cX0_print 60 = .ok (.iload_n 3, 1) := by decide +kernel
theorem dX0_print_61 : decode cX0_print 61 = .ok (.iconst 3, 1) := by decide +kernel
theorem dX0_print_62 : decode cX0_print 62 = .ok (.idiv, 1) := by decide +kernel
theorem dX0_print_63 : decode cX0_print 63 = .ok (.istore 5, 2) := by decide +kernel
theorem dX0_print_65 : decode cX0_print 65 = .ok (.aload_n 0, 1) := by decide +kernel
theorem dX0_print_66 : decode cX0_print 66 = .ok (.getfield 47, 3) := by decide +kernel
theorem dX0_print_69 : decode cX0_print 69 = .ok (.iload 4, 2) := by decide +kernel
theorem dX0_print_71 : decode cX0_print 71 = .ok (.bipush 99, 2) := by decide +kernel
theorem dX0_print_73 : decode cX0_print 73 = .ok (.aload_n 0, 1) := by decide +kernel
theorem dX0_print_74 : decode cX0_print 74 = .ok (.getfield 47, 3) := by decide +kernel
theorem dX0_print_77 : decode cX0_print 77 = .ok (.iload 4, 2) := by decide +kernel
theorem dX0_print_79 : decode cX0_print 79 = .ok (.iaload, 1) := by decide +kernel
theorem dX0_print_80 : decode cX0_print 80 = .ok (.iload 5, 2) := by decide +kernel
theorem dX0_print_82 : decode cX0_print 82 = .ok (.iadd, 1) := by decide +kernel
theorem dX0_print_83 : decode cX0_print 83 = .ok (.invokestatic 114, 3) := by decide +kernel
theorem dX0_print_86 : decode cX0_print 86 = .ok (.iastore, 1) := by decide +kernel
theorem dX0_print_87 : decode cX0_print 87 = .ok (.iinc 4 1, 3) := by decide +kernel
theorem dX0_print_90 : decode cX0_print 90 = .ok (.goto (-70), 3) := by decide +kernel
theorem dX0_print_93 : decode cX0_print 93 = .ok (.iload_n 3, 1) := by decide +kernel
theorem dX0_print_94 : decode cX0_print 94 = .ok (.ireturn, 1) := by decide +kernel
theorem dX0_coolReaders_0 : decode cX0_coolReaders 0 = .ok (.iconst 0, 1) := by decide +kernel
theorem dX0_coolReaders_1 : decode cX0_coolReaders 1 = .ok (.istore_n 1, 1) := by decide +kernel
theorem dX0_coolReaders_2 : decode cX0_coolReaders 2 = .ok (.iload_n 1, 1) := by decide +kernel
theorem dX0_coolReaders_3 : decode cX0_coolReaders 3 = .ok (.aload_n 0, 1) := by decide +kernel
theorem dX0_coolReaders_4 : decode cX0_coolReaders 4 = .ok (.getfield 53, 3) := by decide +kernel
theorem dX0_coolReaders_7 : decode cX0_coolReaders 7 = .ok (.getfield 108, 3) := by decide +kernel
theorem dX0_coolReaders_10 : decode cX0_coolReaders 10 = .ok (.if_icmp .ge 38, 3) := by decide +kernel
theorem dX0_coolReaders_13 : decode cX0_coolReaders 13 = .ok (.aload_n 0, 1) := by decide +kernel
theorem dX0_coolReaders_14 : decode cX0_coolReaders 14 = .ok (.getfield 47, 3) := by decide +kernel
theorem dX0_coolReaders_17 : decode cX0_coolReaders 17 = .ok (.iload_n 1, 1) := by decide +kernel
theorem dX0_coolReaders_18 : decode cX0_coolReaders 18 = .ok (.iaload, 1) := by decide +kernel
theorem dX0_coolReaders_19 : decode cX0_coolReaders 19 = .ok (.ifCond .le 16, 3) := by decide +kernel
theorem dX0_coolReaders_22 : decode cX0_coolReaders 22 = .ok (.aload_n 0, 1) := by decide +kernel
theorem dX0_coolReaders_23 : decode cX0_coolReaders 23 = .ok (.getfield 47, 3) := by decide +kernel
theorem dX0_coolReaders_26 : decode cX0_coolReaders 26 = .ok (.iload_n 1, 1) := by decide +kernel
theorem dX0_coolReaders_27 : decode cX0_coolReaders 27 = .ok (.dup2, 1) := by decide +kernel
theorem dX0_coolReaders_28 : decode cX0_coolReaders 28 = .ok (.iaload, 1) := by decide +kernel
theorem dX0_coolReaders_29 : decode cX0_coolReaders 29 = .ok (.iconst 1, 1) := by decide +kernel
theorem dX0_coolReaders_30 : decode cX0_coolReaders 30 = .ok (.isub, 1) := by decide +kernel
theorem dX0_coolReaders_31 : decode cX0_coolReaders 31 = .ok (.iastore, 1) := by decide +kernel
theorem dX0_coolReaders_32 : decode cX0_coolReaders 32 = .ok (.goto 10, 3) := by decide +kernel
theorem dX0_coolReaders_35 : decode cX0_coolReaders 35 = .ok (.aload_n 0, 1) := by decide +kernel
theorem dX0_coolReaders_36 : decode cX0_coolReaders 36 = .ok (.getfield 50, 3) := by decide +kernel
theorem dX0_coolReaders_39 : decode cX0_coolReaders 39 = .ok (.iload_n 1, 1) := by decide +kernel
theorem dX0_coolReaders_40 : decode cX0_coolReaders 40 = .ok (.iconst 0, 1) := by decide +kernel
theorem dX0_coolReaders_41 : decode cX0_coolReaders 41 = .ok (.bastore, 1) := by decide +kernel
theorem dX0_coolReaders_42 : decode cX0_coolReaders 42 = .ok (.iinc 1 1, 3) := by decide +kernel
theorem dX0_coolReaders_45 : decode cX0_coolReaders 45 = .ok (.goto (-43), 3) := by decide +kernel
theorem dX0_coolReaders_48 : decode cX0_coolReaders 48 = .ok (.return_, 1) := by decide +kernel
theorem dX0_getStuckIfWorn_0 : decode cX0_getStuckIfWorn 0 = .ok (.aload_n 0, 1) := by decide +kernel
theorem dX0_getStuckIfWorn_1 : decode cX0_getStuckIfWorn 1 = .ok (.getfield 21, 3) := by decide +kernel
theorem dX0_getStuckIfWorn_4 : decode cX0_getStuckIfWorn 4 = .ok (.ifCond .ne 37, 3) := by decide +kernel
theorem dX0_getStuckIfWorn_7 : decode cX0_getStuckIfWorn 7 = .ok (.aload_n 0, 1) := by decide +kernel
theorem dX0_getStuckIfWorn_8 : decode cX0_getStuckIfWorn 8 = .ok (.getfield 24, 3) := by decide +kernel
theorem dX0_getStuckIfWorn_11 : decode cX0_getStuckIfWorn 11 = .ok (.aload_n 0, 1) := by decide +kernel
theorem dX0_getStuckIfWorn_12 : decode cX0_getStuckIfWorn 12 = .ok (.getfield 53, 3) := by decide +kernel
theorem dX0_getStuckIfWorn_15 : decode cX0_getStuckIfWorn 15 = .ok (.getfield 119, 3) := by decide +kernel
theorem dX0_getStuckIfWorn_18 : decode cX0_getStuckIfWorn 18 = .ok (.if_icmp .lt 23, 3) := by decide +kernel
theorem dX0_getStuckIfWorn_21 : decode cX0_getStuckIfWorn 21 = .ok (.aload_n 0, 1) := by decide +kernel
theorem dX0_getStuckIfWorn_22 : decode cX0_getStuckIfWorn 22 = .ok (.aload_n 0, 1) := by decide +kernel
theorem dX0_getStuckIfWorn_23 : decode cX0_getStuckIfWorn 23 = .ok (.getfield 53, 3) := by decide +kernel
theorem dX0_getStuckIfWorn_26 : decode cX0_getStuckIfWorn 26 = .ok (.getfield 119, 3) := by decide +kernel
theorem dX0_getStuckIfWorn_29 : decode cX0_getStuckIfWorn 29 = .ok (.iconst 4, 1) := by decide +kernel
theorem dX0_getStuckIfWorn_30 : decode cX0_getStuckIfWorn 30 = .ok (.idiv, 1) := by decide +kernel
theorem dX0_getStuckIfWorn_31 : decode cX0_getStuckIfWorn 31 = .ok (.iconst 1, 1) := by decide +kernel
theorem dX0_getStuckIfWorn_32 : decode cX0_getStuckIfWorn 32 = .ok (.iadd, 1) := by decide +kernel
theorem dX0_getStuckIfWorn_33 : decode cX0_getStuckIfWorn 33 = .ok (.putfield 21, 3) := by decide +kernel
theorem dX0_getStuckIfWorn_36 : decode cX0_getStuckIfWorn 36 = .ok (.aload_n 0, 1) := by decide +kernel
theorem dX0_getStuckIfWorn_37 : decode cX0_getStuckIfWorn 37 = .ok (.iconst 0, 1) := by decide +kernel
theorem dX0_getStuckIfWorn_38 : decode cX0_getStuckIfWorn 38 = .ok (.putfield 24, 3) := by decide +kernel
theorem dX0_getStuckIfWorn_41 : decode cX0_getStuckIfWorn 41 = .ok (.return_, 1) := by decide +kernel
theorem dX0_countCalled_0 : decode cX0_countCalled 0 = .ok (.iconst 0, 1) := by decide +kernel
theorem dX0_countCalled_1 : decode cX0_countCalled 1 = .ok (.istore_n 1, 1) := by decide +kernel
theorem dX0_countCalled_2 : decode cX0_countCalled 2 = .ok (.iconst 0, 1) := by decide +kernel
theorem dX0_countCalled_3 : decode cX0_countCalled 3 = .ok (.istore_n 2, 1) := by decide +kernel
theorem dX0_countCalled_4 : decode cX0_countCalled 4 = .ok (.iload_n 2, 1) := by decide +kernel
theorem dX0_countCalled_5 : decode cX0_countCalled 5 = .ok (.bipush 12, 2) := by decide +kernel
theorem dX0_countCalled_7 : decode cX0_countCalled 7 = .ok (.if_icmp .ge 21, 3) := by decide +kernel
theorem dX0_countCalled_10 : decode cX0_countCalled 10 = .ok (.aload_n 0, 1) := by decide +kernel
theorem dX0_countCalled_11 : decode cX0_countCalled 11 = .ok (.getfield 33, 3) := by decide +kernel
theorem dX0_countCalled_14 : decode cX0_countCalled 14 = .ok (.iload_n 2, 1) := by decide +kernel
theorem dX0_countCalled_15 : decode cX0_countCalled 15 = .ok (.baload, 1) := by decide +kernel
theorem dX0_countCalled_16 : decode cX0_countCalled 16 = .ok (.ifCond .eq 6, 3) := by decide +kernel
theorem dX0_countCalled_19 : decode cX0_countCalled 19 = .ok (.iinc 1 1, 3) := by decide +kernel
theorem dX0_countCalled_22 : decode cX0_countCalled 22 = .ok (.iinc 2 1, 3) := by decide +kernel
theorem dX0_countCalled_25 : decode cX0_countCalled 25 = .ok (.goto (-21), 3) := by decide +kernel
theorem dX0_countCalled_28 : decode cX0_countCalled 28 = .ok (.iload_n 1, 1) := by decide +kernel
theorem dX0_countCalled_29 : decode cX0_countCalled 29 = .ok (.ireturn, 1) := by decide +kernel
theorem dX0_countCut_0 : decode cX0_countCut 0 = .ok (.iconst 0, 1) := by decide +kernel
theorem dX0_countCut_1 : decode cX0_countCut 1 = .ok (.istore_n 1, 1) := by decide +kernel
theorem dX0_countCut_2 : decode cX0_countCut 2 = .ok (.iconst 0, 1) := by decide +kernel
theorem dX0_countCut_3 : decode cX0_countCut 3 = .ok (.istore_n 2, 1) := by decide +kernel
theorem dX0_countCut_4 : decode cX0_countCut 4 = .ok (.iload_n 2, 1) := by decide +kernel
theorem dX0_countCut_5 : decode cX0_countCut 5 = .ok (.bipush 12, 2) := by decide +kernel
theorem dX0_countCut_7 : decode cX0_countCut 7 = .ok (.if_icmp .ge 18, 3) := by decide +kernel
theorem dX0_countCut_10 : decode cX0_countCut 10 = .ok (.iload_n 1, 1) := by decide +kernel
theorem dX0_countCut_11 : decode cX0_countCut 11 = .ok (.aload_n 0, 1) := by decide +kernel
theorem dX0_countCut_12 : decode cX0_countCut 12 = .ok (.getfield 41, 3) := by decide +kernel
theorem dX0_countCut_15 : decode cX0_countCut 15 = .ok (.iload_n 2, 1) := by decide +kernel
theorem dX0_countCut_16 : decode cX0_countCut 16 = .ok (.iaload, 1) := by decide +kernel
theorem dX0_countCut_17 : decode cX0_countCut 17 = .ok (.iadd, 1) := by decide +kernel
theorem dX0_countCut_18 : decode cX0_countCut 18 = .ok (.istore_n 1, 1) := by decide +kernel
theorem dX0_countCut_19 : decode cX0_countCut 19 = .ok (.iinc 2 1, 3) := by decide +kernel
theorem dX0_countCut_22 : decode cX0_countCut 22 = .ok (.goto (-18), 3) := by decide +kernel
theorem dX0_countCut_25 : decode cX0_countCut 25 = .ok (.iload_n 1, 1) := by decide +kernel
theorem dX0_countCut_26 : decode cX0_countCut 26 = .ok (.ireturn, 1) := by decide +kernel
theorem dX0_countToCome_0 : decode cX0_countToCome 0 = .ok (.iconst 0, 1) := by decide +kernel
theorem dX0_countToCome_1 : decode cX0_countToCome 1 = .ok (.istore_n 2, 1) := by decide +kernel
theorem dX0_countToCome_2 : decode cX0_countToCome 2 = .ok (.iconst 0, 1) := by decide +kernel
theorem dX0_countToCome_3 : decode cX0_countToCome 3 = .ok (.istore_n 3, 1) := by decide +kernel
theorem dX0_countToCome_4 : decode cX0_countToCome 4 = .ok (.iload_n 3, 1) := by decide +kernel
theorem dX0_countToCome_5 : decode cX0_countToCome 5 = .ok (.aload_n 0, 1) := by decide +kernel
theorem dX0_countToCome_6 : decode cX0_countToCome 6 = .ok (.getfield 53, 3) := by decide +kernel
theorem dX0_countToCome_9 : decode cX0_countToCome 9 = .ok (.getfield 122, 3) := by decide +kernel
theorem dX0_countToCome_12 : decode cX0_countToCome 12 = .ok (.if_icmp .ge 54, 3) := by decide +kernel
theorem dX0_countToCome_15 : decode cX0_countToCome 15 = .ok (.aload_n 0, 1) := by decide +kernel
theorem dX0_countToCome_16 : decode cX0_countToCome 16 = .ok (.getfield 37, 3) := by decide +kernel
theorem dX0_countToCome_19 : decode cX0_countToCome 19 = .ok (.iload_n 3, 1) := by decide +kernel
theorem dX0_countToCome_20 : decode cX0_countToCome 20 = .ok (.iaload, 1) := by decide +kernel
theorem dX0_countToCome_21 : decode cX0_countToCome 21 = .ok (.istore 4, 2) := by decide +kernel
theorem dX0_countToCome_23 : decode cX0_countToCome 23 = .ok (.iload 4, 2) := by decide +kernel
theorem dX0_countToCome_25 : decode cX0_countToCome 25 = .ok (.aload_n 0, 1) := by decide +kernel
theorem dX0_countToCome_26 : decode cX0_countToCome 26 = .ok (.getfield 53, 3) := by decide +kernel
theorem dX0_countToCome_29 : decode cX0_countToCome 29 = .ok (.getfield 93, 3) := by decide +kernel
theorem dX0_countToCome_32 : decode cX0_countToCome 32 = .ok (.iload_n 3, 1) := by decide +kernel
theorem dX0_countToCome_33 : decode cX0_countToCome 33 = .ok (.iaload, 1) := by decide +kernel
theorem dX0_countToCome_34 : decode cX0_countToCome 34 = .ok (.if_icmp .ge 26, 3) := by decide +kernel
theorem dX0_countToCome_37 : decode cX0_countToCome 37 = .ok (.aload_n 0, 1) := by decide +kernel
theorem dX0_countToCome_38 : decode cX0_countToCome 38 = .ok (.getfield 53, 3) := by decide +kernel
theorem dX0_countToCome_41 : decode cX0_countToCome 41 = .ok (.iload_n 3, 1) := by decide +kernel
theorem dX0_countToCome_42 : decode cX0_countToCome 42 = .ok (.iload 4, 2) := by decide +kernel
theorem dX0_countToCome_44 : decode cX0_countToCome 44 = .ok (.invokevirtual 98, 3) := by decide +kernel
theorem dX0_countToCome_47 : decode cX0_countToCome 47 = .ok (.iload_n 1, 1) := by decide +kernel
theorem dX0_countToCome_48 : decode cX0_countToCome 48 = .ok (.if_icmp .ne 6, 3) := by decide +kernel
theorem dX0_countToCome_51 : decode cX0_countToCome 51 = .ok (.iinc 2 1, 3) := by decide +kernel
theorem dX0_countToCome_54 : decode cX0_countToCome 54 = .ok (.iinc 4 1, 3) := by decide +kernel
theorem dX0_countToCome_57 : decode cX0_countToCome 57 = .ok (.goto (-34), 3) := by decide +kernel
theorem dX0_countToCome_60 : decode cX0_countToCome 60 = .ok (.iinc 3 1, 3) := by decide +kernel
theorem dX0_countToCome_63 : decode cX0_countToCome 63 = .ok (.goto (-59), 3) := by decide +kernel
theorem dX0_countToCome_66 : decode cX0_countToCome 66 = .ok (.iload_n 2, 1) := by decide +kernel
theorem dX0_countToCome_67 : decode cX0_countToCome 67 = .ok (.ireturn, 1) := by decide +kernel
theorem dX0_countSubscribers_0 : decode cX0_countSubscribers 0 = .ok (.iconst 0, 1) := by decide +kernel
theorem dX0_countSubscribers_1 : decode cX0_countSubscribers 1 = .ok (.istore_n 1, 1) := by decide +kernel
theorem dX0_countSubscribers_2 : decode cX0_countSubscribers 2 = .ok (.iconst 0, 1) := by decide +kernel
theorem dX0_countSubscribers_3 : decode cX0_countSubscribers 3 = .ok (.istore_n 2, 1) := by decide +kernel
theorem dX0_countSubscribers_4 : decode cX0_countSubscribers 4 = .ok (.iload_n 2, 1) := by decide +kernel
theorem dX0_countSubscribers_5 : decode cX0_countSubscribers 5 = .ok (.aload_n 0, 1) := by decide +kernel
theorem dX0_countSubscribers_6 : decode cX0_countSubscribers 6 = .ok (.getfield 53, 3) := by decide +kernel
theorem dX0_countSubscribers_9 : decode cX0_countSubscribers 9 = .ok (.getfield 108, 3) := by decide +kernel
theorem dX0_countSubscribers_12 : decode cX0_countSubscribers 12 = .ok (.if_icmp .ge 21, 3) := by decide +kernel
theorem dX0_countSubscribers_15 : decode cX0_countSubscribers 15 = .ok (.aload_n 0, 1) := by decide +kernel
theorem dX0_countSubscribers_16 : decode cX0_countSubscribers 16 = .ok (.getfield 50, 3) := by decide +kernel
theorem dX0_countSubscribers_19 : decode cX0_countSubscribers 19 = .ok (.iload_n 2, 1) := by decide +kernel
theorem dX0_countSubscribers_20 : decode cX0_countSubscribers 20 = .ok (.baload, 1) := by decide +kernel
theorem dX0_countSubscribers_21 : decode cX0_countSubscribers 21 = .ok (.ifCond .eq 6, 3) := by decide +kernel
theorem dX0_countSubscribers_24 : decode cX0_countSubscribers 24 = .ok (.iinc 1 1, 3) := by decide +kernel
theorem dX0_countSubscribers_27 : decode cX0_countSubscribers 27 = .ok (.iinc 2 1, 3) := by decide +kernel
theorem dX0_countSubscribers_30 : decode cX0_countSubscribers 30 = .ok (.goto (-26), 3) := by decide +kernel
theorem dX0_countSubscribers_33 : decode cX0_countSubscribers 33 = .ok (.iload_n 1, 1) := by decide +kernel
theorem dX0_countSubscribers_34 : decode cX0_countSubscribers 34 = .ok (.ireturn, 1) := by decide +kernel
theorem dX0_sumOfWarmths_0 : decode cX0_sumOfWarmths 0 = .ok (.iconst 0, 1) := by decide +kernel
theorem dX0_sumOfWarmths_1 : decode cX0_sumOfWarmths 1 = .ok (.istore_n 1, 1) := by decide +kernel
theorem dX0_sumOfWarmths_2 : decode cX0_sumOfWarmths 2 = .ok (.iconst 0, 1) := by decide +kernel
theorem dX0_sumOfWarmths_3 : decode cX0_sumOfWarmths 3 = .ok (.istore_n 2, 1) := by decide +kernel
theorem dX0_sumOfWarmths_4 : decode cX0_sumOfWarmths 4 = .ok (.iload_n 2, 1) := by decide +kernel
theorem dX0_sumOfWarmths_5 : decode cX0_sumOfWarmths 5 = .ok (.aload_n 0, 1) := by decide +kernel
theorem dX0_sumOfWarmths_6 : decode cX0_sumOfWarmths 6 = .ok (.getfield 53, 3) := by decide +kernel
theorem dX0_sumOfWarmths_9 : decode cX0_sumOfWarmths 9 = .ok (.getfield 108, 3) := by decide +kernel
theorem dX0_sumOfWarmths_12 : decode cX0_sumOfWarmths 12 = .ok (.if_icmp .ge 27, 3) := by decide +kernel
theorem dX0_sumOfWarmths_15 : decode cX0_sumOfWarmths 15 = .ok (.aload_n 0, 1) := by decide +kernel
theorem dX0_sumOfWarmths_16 : decode cX0_sumOfWarmths 16 = .ok (.getfield 50, 3) := by decide +kernel
theorem dX0_sumOfWarmths_19 : decode cX0_sumOfWarmths 19 = .ok (.iload_n 2, 1) := by decide +kernel
theorem dX0_sumOfWarmths_20 : decode cX0_sumOfWarmths 20 = .ok (.baload, 1) := by decide +kernel
theorem dX0_sumOfWarmths_21 : decode cX0_sumOfWarmths 21 = .ok (.ifCond .eq 12, 3) := by decide +kernel
theorem dX0_sumOfWarmths_24 : decode cX0_sumOfWarmths 24 = .ok (.iload_n 1, 1) := by decide +kernel
theorem dX0_sumOfWarmths_25 : decode cX0_sumOfWarmths 25 = .ok (.aload_n 0, 1) := by decide +kernel
theorem dX0_sumOfWarmths_26 : decode cX0_sumOfWarmths 26 = .ok (.getfield 47, 3) := by decide +kernel
theorem dX0_sumOfWarmths_29 : decode cX0_sumOfWarmths 29 = .ok (.iload_n 2, 1) := by decide +kernel
theorem dX0_sumOfWarmths_30 : decode cX0_sumOfWarmths 30 = .ok (.iaload, 1) := by decide +kernel
theorem dX0_sumOfWarmths_31 : decode cX0_sumOfWarmths 31 = .ok (.iadd, 1) := by decide +kernel
theorem dX0_sumOfWarmths_32 : decode cX0_sumOfWarmths 32 = .ok (.istore_n 1, 1) := by decide +kernel
theorem dX0_sumOfWarmths_33 : decode cX0_sumOfWarmths 33 = .ok (.iinc 2 1, 3) := by decide +kernel
theorem dX0_sumOfWarmths_36 : decode cX0_sumOfWarmths 36 = .ok (.goto (-32), 3) := by decide +kernel
theorem dX0_sumOfWarmths_39 : decode cX0_sumOfWarmths 39 = .ok (.iload_n 1, 1) := by decide +kernel
theorem dX0_sumOfWarmths_40 : decode cX0_sumOfWarmths 40 = .ok (.ireturn, 1) := by decide +kernel
theorem dX0_findWarmest_0 : decode cX0_findWarmest 0 = .ok (.iconst (-1), 1) := by decide +kernel
theorem dX0_findWarmest_1 : decode cX0_findWarmest 1 = .ok (.istore_n 1, 1) := by decide +kernel
theorem dX0_findWarmest_2 : decode cX0_findWarmest 2 = .ok (.iconst 0, 1) := by decide +kernel
theorem dX0_findWarmest_3 : decode cX0_findWarmest 3 = .ok (.istore_n 2, 1) := by decide +kernel
theorem dX0_findWarmest_4 : decode cX0_findWarmest 4 = .ok (.iload_n 2, 1) := by decide +kernel
theorem dX0_findWarmest_5 : decode cX0_findWarmest 5 = .ok (.aload_n 0, 1) := by decide +kernel
theorem dX0_findWarmest_6 : decode cX0_findWarmest 6 = .ok (.getfield 53, 3) := by decide +kernel
theorem dX0_findWarmest_9 : decode cX0_findWarmest 9 = .ok (.getfield 108, 3) := by decide +kernel
theorem dX0_findWarmest_12 : decode cX0_findWarmest 12 = .ok (.if_icmp .ge 40, 3) := by decide +kernel
theorem dX0_findWarmest_15 : decode cX0_findWarmest 15 = .ok (.aload_n 0, 1) := by decide +kernel
theorem dX0_findWarmest_16 : decode cX0_findWarmest 16 = .ok (.getfield 50, 3) := by decide +kernel
theorem dX0_findWarmest_19 : decode cX0_findWarmest 19 = .ok (.iload_n 2, 1) := by decide +kernel
theorem dX0_findWarmest_20 : decode cX0_findWarmest 20 = .ok (.baload, 1) := by decide +kernel
theorem dX0_findWarmest_21 : decode cX0_findWarmest 21 = .ok (.ifCond .eq 25, 3) := by decide +kernel
theorem dX0_findWarmest_24 : decode cX0_findWarmest 24 = .ok (.iload_n 1, 1) := by decide +kernel
theorem dX0_findWarmest_25 : decode cX0_findWarmest 25 = .ok (.iconst (-1), 1) := by decide +kernel
theorem dX0_findWarmest_26 : decode cX0_findWarmest 26 = .ok (.if_icmp .eq 18, 3) := by decide +kernel
theorem dX0_findWarmest_29 : decode cX0_findWarmest 29 = .ok (.aload_n 0, 1) := by decide +kernel
theorem dX0_findWarmest_30 : decode cX0_findWarmest 30 = .ok (.getfield 47, 3) := by decide +kernel
theorem dX0_findWarmest_33 : decode cX0_findWarmest 33 = .ok (.iload_n 2, 1) := by decide +kernel
theorem dX0_findWarmest_34 : decode cX0_findWarmest 34 = .ok (.iaload, 1) := by decide +kernel
theorem dX0_findWarmest_35 : decode cX0_findWarmest 35 = .ok (.aload_n 0, 1) := by decide +kernel
theorem dX0_findWarmest_36 : decode cX0_findWarmest 36 = .ok (.getfield 47, 3) := by decide +kernel
theorem dX0_findWarmest_39 : decode cX0_findWarmest 39 = .ok (.iload_n 1, 1) := by decide +kernel
theorem dX0_findWarmest_40 : decode cX0_findWarmest 40 = .ok (.iaload, 1) := by decide +kernel
theorem dX0_findWarmest_41 : decode cX0_findWarmest 41 = .ok (.if_icmp .le 5, 3) := by decide +kernel
theorem dX0_findWarmest_44 : decode cX0_findWarmest 44 = .ok (.iload_n 2, 1) := by decide +kernel
theorem dX0_findWarmest_45 : decode cX0_findWarmest 45 = .ok (.istore_n 1, 1) := by decide +kernel
theorem dX0_findWarmest_46 : decode cX0_findWarmest 46 = .ok (.iinc 2 1, 3) := by decide +kernel
theorem dX0_findWarmest_49 : decode cX0_findWarmest 49 = .ok (.goto (-45), 3) := by decide +kernel
theorem dX0_findWarmest_52 : decode cX0_findWarmest 52 = .ok (.iload_n 1, 1) := by decide +kernel
theorem dX0_findWarmest_53 : decode cX0_findWarmest 53 = .ok (.ireturn, 1) := by decide +kernel
theorem dX1_init_0 : decode cX1_init 0 = .ok (.aload_n 0, 1) := by decide +kernel
theorem dX1_init_1 : decode cX1_init 1 = .ok (.invokespecial 3, 3) := by decide +kernel
theorem dX1_init_4 : decode cX1_init 4 = .ok (.aload_n 0, 1) := by decide +kernel
theorem dX1_init_5 : decode cX1_init 5 = .ok (.bipush 6, 2) := by decide +kernel
theorem dX1_init_7 : decode cX1_init 7 = .ok (.putfield 9, 3) := by decide +kernel
theorem dX1_init_10 : decode cX1_init 10 = .ok (.aload_n 0, 1) := by decide +kernel
theorem dX1_init_11 : decode cX1_init 11 = .ok (.bipush 20, 2) := by decide +kernel
theorem dX1_init_13 : decode cX1_init 13 = .ok (.putfield 15, 3) := by decide +kernel
theorem dX1_init_16 : decode cX1_init 16 = .ok (.aload_n 0, 1) := by decide +kernel
theorem dX1_init_17 : decode cX1_init 17 = .ok (.iconst 0, 1) := by decide +kernel
theorem dX1_init_18 : decode cX1_init 18 = .ok (.putfield 18, 3) := by decide +kernel
theorem dX1_init_21 : decode cX1_init 21 = .ok (.aload_n 0, 1) := by decide +kernel
theorem dX1_init_22 : decode cX1_init 22 = .ok (.bipush 12, 2) := by decide +kernel
theorem dX1_init_24 : decode cX1_init 24 = .ok (.newarray .int, 2) := by decide +kernel
theorem dX1_init_26 : decode cX1_init 26 = .ok (.putfield 21, 3) := by decide +kernel
theorem dX1_init_29 : decode cX1_init 29 = .ok (.aload_n 0, 1) := by decide +kernel
theorem dX1_init_30 : decode cX1_init 30 = .ok (.bipush 108, 2) := by decide +kernel
theorem dX1_init_32 : decode cX1_init 32 = .ok (.newarray .int, 2) := by decide +kernel
theorem dX1_init_34 : decode cX1_init 34 = .ok (.putfield 25, 3) := by decide +kernel
theorem dX1_init_37 : decode cX1_init 37 = .ok (.aload_n 0, 1) := by decide +kernel
theorem dX1_init_38 : decode cX1_init 38 = .ok (.bipush 108, 2) := by decide +kernel
theorem dX1_init_40 : decode cX1_init 40 = .ok (.newarray .int, 2) := by decide +kernel
theorem dX1_init_42 : decode cX1_init 42 = .ok (.putfield 28, 3) := by decide +kernel
theorem dX1_init_45 : decode cX1_init 45 = .ok (.aload_n 0, 1) := by decide +kernel
theorem dX1_init_46 : decode cX1_init 46 = .ok (.bipush 8, 2) := by decide +kernel
theorem dX1_init_48 : decode cX1_init 48 = .ok (.newarray .int, 2) := by decide +kernel
theorem dX1_init_50 : decode cX1_init 50 = .ok (.putfield 31, 3) := by decide +kernel
theorem dX1_init_53 : decode cX1_init 53 = .ok (.return_, 1) := by decide +kernel
theorem dX1_clear_0 : decode cX1_clear 0 = .ok (.aload_n 0, 1) := by decide +kernel
theorem dX1_clear_1 : decode cX1_clear 1 = .ok (.iload_n 1, 1) := by decide +kernel
theorem dX1_clear_2 : decode cX1_clear 2 = .ok (.putfield 9, 3) := by decide +kernel
theorem dX1_clear_5 : decode cX1_clear 5 = .ok (.iconst 0, 1) := by decide +kernel
theorem dX1_clear_6 : decode cX1_clear 6 = .ok (.istore_n 2, 1) := by decide +kernel
theorem dX1_clear_7 : decode cX1_clear 7 = .ok (.iload_n 2, 1) := by decide +kernel
theorem dX1_clear_8 : decode cX1_clear 8 = .ok (.bipush 12, 2) := by decide +kernel
theorem dX1_clear_10 : decode cX1_clear 10 = .ok (.if_icmp .ge 16, 3) := by decide +kernel
theorem dX1_clear_13 : decode cX1_clear 13 = .ok (.aload_n 0, 1) := by decide +kernel
theorem dX1_clear_14 : decode cX1_clear 14 = .ok (.getfield 21, 3) := by decide +kernel
theorem dX1_clear_17 : decode cX1_clear 17 = .ok (.iload_n 2, 1) := by decide +kernel
theorem dX1_clear_18 : decode cX1_clear 18 = .ok (.iconst 0, 1) := by decide +kernel
theorem dX1_clear_19 : decode cX1_clear 19 = .ok (.iastore, 1) := by decide +kernel
theorem dX1_clear_20 : decode cX1_clear 20 = .ok (.iinc 2 1, 3) := by decide +kernel
theorem dX1_clear_23 : decode cX1_clear 23 = .ok (.goto (-16), 3) := by decide +kernel
theorem dX1_clear_26 : decode cX1_clear 26 = .ok (.return_, 1) := by decide +kernel
theorem dX1_append_0 : decode cX1_append 0 = .ok (.aload_n 0, 1) := by decide +kernel
theorem dX1_append_1 : decode cX1_append 1 = .ok (.getfield 21, 3) := by decide +kernel
theorem dX1_append_4 : decode cX1_append 4 = .ok (.iload_n 1, 1) := by decide +kernel
theorem dX1_append_5 : decode cX1_append 5 = .ok (.iaload, 1) := by decide +kernel
theorem dX1_append_6 : decode cX1_append 6 = .ok (.istore 4, 2) := by decide +kernel
theorem dX1_append_8 : decode cX1_append 8 = .ok (.aload_n 0, 1) := by decide +kernel
theorem dX1_append_9 : decode cX1_append 9 = .ok (.getfield 25, 3) := by decide +kernel
theorem dX1_append_12 : decode cX1_append 12 = .ok (.iload_n 1, 1) := by decide +kernel
theorem dX1_append_13 : decode cX1_append 13 = .ok (.bipush 9, 2) := by decide +kernel
theorem dX1_append_15 : decode cX1_append 15 = .ok (.imul, 1) := by decide +kernel
theorem dX1_append_16 : decode cX1_append 16 = .ok (.iload 4, 2) := by decide +kernel
theorem dX1_append_18 : decode cX1_append 18 = .ok (.iadd, 1) := by decide +kernel
theorem dX1_append_19 : decode cX1_append 19 = .ok (.iload_n 2, 1) := by decide +kernel
theorem dX1_append_20 : decode cX1_append 20 = .ok (.iastore, 1) := by decide +kernel
theorem dX1_append_21 : decode cX1_append 21 = .ok (.aload_n 0, 1) := by decide +kernel
theorem dX1_append_22 : decode cX1_append 22 = .ok (.getfield 28, 3) := by decide +kernel
theorem dX1_append_25 : decode cX1_append 25 = .ok (.iload_n 1, 1) := by decide +kernel
theorem dX1_append_26 : decode cX1_append 26 = .ok (.bipush 9, 2) := by decide +kernel
theorem dX1_append_28 : decode cX1_append 28 = .ok (.imul, 1) := by decide +kernel
theorem dX1_append_29 : decode cX1_append 29 = .ok (.iload 4, 2) := by decide +kernel
theorem dX1_append_31 : decode cX1_append 31 = .ok (.iadd, 1) := by decide +kernel
theorem dX1_append_32 : decode cX1_append 32 = .ok (.iload_n 3, 1) := by decide +kernel
theorem dX1_append_33 : decode cX1_append 33 = .ok (.iastore, 1) := by decide +kernel
theorem dX1_append_34 : decode cX1_append 34 = .ok (.aload_n 0, 1) := by decide +kernel
theorem dX1_append_35 : decode cX1_append 35 = .ok (.getfield 21, 3) := by decide +kernel
theorem dX1_append_38 : decode cX1_append 38 = .ok (.iload_n 1, 1) := by decide +kernel
theorem dX1_append_39 : decode cX1_append 39 = .ok (.iload 4, 2) := by decide +kernel
theorem dX1_append_41 : decode cX1_append 41 = .ok (.iconst 1, 1) := by decide +kernel
theorem dX1_append_42 : decode cX1_append 42 = .ok (.iadd, 1) := by decide +kernel
theorem dX1_append_43 : decode cX1_append 43 = .ok (.iastore, 1) := by decide +kernel
theorem dX1_append_44 : decode cX1_append 44 = .ok (.iload 4, 2) := by decide +kernel
theorem dX1_append_46 : decode cX1_append 46 = .ok (.ireturn, 1) := by decide +kernel
theorem dX1_topicAt_0 : decode cX1_topicAt 0 = .ok (.aload_n 0, 1) := by decide +kernel
theorem dX1_topicAt_1 : decode cX1_topicAt 1 = .ok (.getfield 25, 3) := by decide +kernel
theorem dX1_topicAt_4 : decode cX1_topicAt 4 = .ok (.iload_n 1, 1) := by decide +kernel
theorem dX1_topicAt_5 : decode cX1_topicAt 5 = .ok (.bipush 9, 2) := by decide +kernel
theorem dX1_topicAt_7 : decode cX1_topicAt 7 = .ok (.imul, 1) := by decide +kernel
theorem dX1_topicAt_8 : decode cX1_topicAt 8 = .ok (.iload_n 2, 1) := by decide +kernel
theorem dX1_topicAt_9 : decode cX1_topicAt 9 = .ok (.iadd, 1) := by decide +kernel
theorem dX1_topicAt_10 : decode cX1_topicAt 10 = .ok (.iaload, 1) := by decide +kernel
theorem dX1_topicAt_11 : decode cX1_topicAt 11 = .ok (.ireturn, 1) := by decide +kernel
theorem dX1_thrillAt_0 : decode cX1_thrillAt 0 = .ok (.aload_n 0, 1) := by decide +kernel
theorem dX1_thrillAt_1 : decode cX1_thrillAt 1 = .ok (.getfield 28, 3) := by decide +kernel
theorem dX1_thrillAt_4 : decode cX1_thrillAt 4 = .ok (.iload_n 1, 1) := by decide +kernel
theorem dX1_thrillAt_5 : decode cX1_thrillAt 5 = .ok (.bipush 9, 2) := by decide +kernel
theorem dX1_thrillAt_7 : decode cX1_thrillAt 7 = .ok (.imul, 1) := by decide +kernel
theorem dX1_thrillAt_8 : decode cX1_thrillAt 8 = .ok (.iload_n 2, 1) := by decide +kernel
theorem dX1_thrillAt_9 : decode cX1_thrillAt 9 = .ok (.iadd, 1) := by decide +kernel
theorem dX1_thrillAt_10 : decode cX1_thrillAt 10 = .ok (.iaload, 1) := by decide +kernel
theorem dX1_thrillAt_11 : decode cX1_thrillAt 11 = .ok (.ireturn, 1) := by decide +kernel
theorem dX2_init_0 : decode cX2_init 0 = .ok (.aload_n 0, 1) := by decide +kernel
theorem dX2_init_1 : decode cX2_init 1 = .ok (.invokespecial 3, 3) := by decide +kernel
theorem dX2_init_4 : decode cX2_init 4 = .ok (.aload_n 0, 1) := by decide +kernel
theorem dX2_init_5 : decode cX2_init 5 = .ok (.iconst 0, 1) := by decide +kernel
theorem dX2_init_6 : decode cX2_init 6 = .ok (.putfield 9, 3) := by decide +kernel
theorem dX2_init_9 : decode cX2_init 9 = .ok (.aload_n 0, 1) := by decide +kernel
theorem dX2_init_10 : decode cX2_init 10 = .ok (.bipush 108, 2) := by decide +kernel
theorem dX2_init_12 : decode cX2_init 12 = .ok (.newarray .int, 2) := by decide +kernel
theorem dX2_init_14 : decode cX2_init 14 = .ok (.putfield 15, 3) := by decide +kernel
theorem dX2_init_17 : decode cX2_init 17 = .ok (.aload_n 0, 1) := by decide +kernel
theorem dX2_init_18 : decode cX2_init 18 = .ok (.bipush 108, 2) := by decide +kernel
theorem dX2_init_20 : decode cX2_init 20 = .ok (.newarray .int, 2) := by decide +kernel
theorem dX2_init_22 : decode cX2_init 22 = .ok (.putfield 19, 3) := by decide +kernel
theorem dX2_init_25 : decode cX2_init 25 = .ok (.aload_n 0, 1) := by decide +kernel
theorem dX2_init_26 : decode cX2_init 26 = .ok (.bipush 108, 2) := by decide +kernel
theorem dX2_init_28 : decode cX2_init 28 = .ok (.newarray .int, 2) := by decide +kernel
theorem dX2_init_30 : decode cX2_init 30 = .ok (.putfield 22, 3) := by decide +kernel
theorem dX2_init_33 : decode cX2_init 33 = .ok (.aload_n 0, 1) := by decide +kernel
theorem dX2_init_34 : decode cX2_init 34 = .ok (.bipush 108, 2) := by decide +kernel
theorem dX2_init_36 : decode cX2_init 36 = .ok (.newarray .int, 2) := by decide +kernel
theorem dX2_init_38 : decode cX2_init 38 = .ok (.putfield 25, 3) := by decide +kernel
theorem dX2_init_41 : decode cX2_init 41 = .ok (.return_, 1) := by decide +kernel
theorem dX2_append_0 : decode cX2_append 0 = .ok (.aload_n 0, 1) := by decide +kernel
theorem dX2_append_1 : decode cX2_append 1 = .ok (.getfield 9, 3) := by decide +kernel
theorem dX2_append_4 : decode cX2_append 4 = .ok (.bipush 108, 2) := by decide +kernel
theorem dX2_append_6 : decode cX2_append 6 = .ok (.if_icmp .lt 4, 3) := by decide +kernel
theorem dX2_append_9 : decode cX2_append 9 = .ok (.return_, 1) := by decide +kernel
theorem dX2_append_10 : decode cX2_append 10 = .ok (.aload_n 0, 1) := by decide +kernel
theorem dX2_append_11 : decode cX2_append 11 = .ok (.getfield 15, 3) := by decide +kernel
theorem dX2_append_14 : decode cX2_append 14 = .ok (.aload_n 0, 1) := by decide +kernel
theorem dX2_append_15 : decode cX2_append 15 = .ok (.getfield 9, 3) := by decide +kernel
theorem dX2_append_18 : decode cX2_append 18 = .ok (.iload_n 1, 1) := by decide +kernel
theorem dX2_append_19 : decode cX2_append 19 = .ok (.iastore, 1) := by decide +kernel
theorem dX2_append_20 : decode cX2_append 20 = .ok (.aload_n 0, 1) := by decide +kernel
theorem dX2_append_21 : decode cX2_append 21 = .ok (.getfield 19, 3) := by decide +kernel
theorem dX2_append_24 : decode cX2_append 24 = .ok (.aload_n 0, 1) := by decide +kernel
theorem dX2_append_25 : decode cX2_append 25 = .ok (.getfield 9, 3) := by decide +kernel
theorem dX2_append_28 : decode cX2_append 28 = .ok (.iload_n 2, 1) := by decide +kernel
theorem dX2_append_29 : decode cX2_append 29 = .ok (.iastore, 1) := by decide +kernel
theorem dX2_append_30 : decode cX2_append 30 = .ok (.aload_n 0, 1) := by decide +kernel
theorem dX2_append_31 : decode cX2_append 31 = .ok (.getfield 22, 3) := by decide +kernel
theorem dX2_append_34 : decode cX2_append 34 = .ok (.aload_n 0, 1) := by decide +kernel
theorem dX2_append_35 : decode cX2_append 35 = .ok (.getfield 9, 3) := by decide +kernel
theorem dX2_append_38 : decode cX2_append 38 = .ok (.iload_n 3, 1) := by decide +kernel
theorem dX2_append_39 : decode cX2_append 39 = .ok (.iastore, 1) := by decide +kernel
theorem dX2_append_40 : decode cX2_append 40 = .ok (.aload_n 0, 1) := by decide +kernel
theorem dX2_append_41 : decode cX2_append 41 = .ok (.getfield 25, 3) := by decide +kernel
theorem dX2_append_44 : decode cX2_append 44 = .ok (.aload_n 0, 1) := by decide +kernel
theorem dX2_append_45 : decode cX2_append 45 = .ok (.getfield 9, 3) := by decide +kernel
theorem dX2_append_48 : decode cX2_append 48 = .ok (.iload 4, 2) := by decide +kernel
theorem dX2_append_50 : decode cX2_append 50 = .ok (.iastore, 1) := by decide +kernel
theorem dX2_append_51 : decode cX2_append 51 = .ok (.aload_n 0, 1) := by decide +kernel
theorem dX2_append_52 : decode cX2_append 52 = .ok (.dup, 1) := by decide +kernel
theorem dX2_append_53 : decode cX2_append 53 = .ok (.getfield 9, 3) := by decide +kernel
theorem dX2_append_56 : decode cX2_append 56 = .ok (.iconst 1, 1) := by decide +kernel
theorem dX2_append_57 : decode cX2_append 57 = .ok (.iadd, 1) := by decide +kernel
theorem dX2_append_58 : decode cX2_append 58 = .ok (.putfield 9, 3) := by decide +kernel
theorem dX2_append_61 : decode cX2_append 61 = .ok (.return_, 1) := by decide +kernel
theorem dX2_findMostThrilling_0 : decode cX2_findMostThrilling 0 = .ok (.iconst (-1), 1) := by decide +kernel
theorem dX2_findMostThrilling_1 : decode cX2_findMostThrilling 1 = .ok (.istore_n 1, 1) := by decide +kernel
theorem dX2_findMostThrilling_2 : decode cX2_findMostThrilling 2 = .ok (.iconst 0, 1) := by decide +kernel
theorem dX2_findMostThrilling_3 : decode cX2_findMostThrilling 3 = .ok (.istore_n 2, 1) := by decide +kernel
theorem dX2_findMostThrilling_4 : decode cX2_findMostThrilling 4 = .ok (.iload_n 2, 1) := by decide +kernel
theorem dX2_findMostThrilling_5 : decode cX2_findMostThrilling 5 = .ok (.aload_n 0, 1) := by decide +kernel
theorem dX2_findMostThrilling_6 : decode cX2_findMostThrilling 6 = .ok (.getfield 9, 3) := by decide +kernel
theorem dX2_findMostThrilling_9 : decode cX2_findMostThrilling 9 = .ok (.if_icmp .ge 31, 3) := by decide +kernel
theorem dX2_findMostThrilling_12 : decode cX2_findMostThrilling 12 = .ok (.iload_n 1, 1) := by decide +kernel
theorem dX2_findMostThrilling_13 : decode cX2_findMostThrilling 13 = .ok (.iconst (-1), 1) := by decide +kernel
theorem dX2_findMostThrilling_14 : decode cX2_findMostThrilling 14 = .ok (.if_icmp .eq 18, 3) := by decide +kernel
theorem dX2_findMostThrilling_17 : decode cX2_findMostThrilling 17 = .ok (.aload_n 0, 1) := by decide +kernel
theorem dX2_findMostThrilling_18 : decode cX2_findMostThrilling 18 = .ok (.getfield 22, 3) := by decide +kernel
theorem dX2_findMostThrilling_21 : decode cX2_findMostThrilling 21 = .ok (.iload_n 2, 1) := by decide +kernel
theorem dX2_findMostThrilling_22 : decode cX2_findMostThrilling 22 = .ok (.iaload, 1) := by decide +kernel
theorem dX2_findMostThrilling_23 : decode cX2_findMostThrilling 23 = .ok (.aload_n 0, 1) := by decide +kernel
theorem dX2_findMostThrilling_24 : decode cX2_findMostThrilling 24 = .ok (.getfield 22, 3) := by decide +kernel
theorem dX2_findMostThrilling_27 : decode cX2_findMostThrilling 27 = .ok (.iload_n 1, 1) := by decide +kernel
theorem dX2_findMostThrilling_28 : decode cX2_findMostThrilling 28 = .ok (.iaload, 1) := by decide +kernel
theorem dX2_findMostThrilling_29 : decode cX2_findMostThrilling 29 = .ok (.if_icmp .le 5, 3) := by decide +kernel
theorem dX2_findMostThrilling_32 : decode cX2_findMostThrilling 32 = .ok (.iload_n 2, 1) := by decide +kernel
theorem dX2_findMostThrilling_33 : decode cX2_findMostThrilling 33 = .ok (.istore_n 1, 1) := by decide +kernel
theorem dX2_findMostThrilling_34 : decode cX2_findMostThrilling 34 = .ok (.iinc 2 1, 3) := by decide +kernel
theorem dX2_findMostThrilling_37 : decode cX2_findMostThrilling 37 = .ok (.goto (-33), 3) := by decide +kernel
theorem dX2_findMostThrilling_40 : decode cX2_findMostThrilling 40 = .ok (.iload_n 1, 1) := by decide +kernel
theorem dX2_findMostThrilling_41 : decode cX2_findMostThrilling 41 = .ok (.ireturn, 1) := by decide +kernel
theorem dX2_findLongestWait_0 : decode cX2_findLongestWait 0 = .ok (.iconst 0, 1) := by decide +kernel
theorem dX2_findLongestWait_1 : decode cX2_findLongestWait 1 = .ok (.istore_n 1, 1) := by decide +kernel
theorem dX2_findLongestWait_2 : decode cX2_findLongestWait 2 = .ok (.iconst 1, 1) := by decide +kernel
theorem dX2_findLongestWait_3 : decode cX2_findLongestWait 3 = .ok (.istore_n 2, 1) := by decide +kernel
theorem dX2_findLongestWait_4 : decode cX2_findLongestWait 4 = .ok (.iload_n 2, 1) := by decide +kernel
theorem dX2_findLongestWait_5 : decode cX2_findLongestWait 5 = .ok (.aload_n 0, 1) := by decide +kernel
theorem dX2_findLongestWait_6 : decode cX2_findLongestWait 6 = .ok (.getfield 9, 3) := by decide +kernel
theorem dX2_findLongestWait_9 : decode cX2_findLongestWait 9 = .ok (.if_icmp .ge 29, 3) := by decide +kernel
theorem dX2_findLongestWait_12 : decode cX2_findLongestWait 12 = .ok (.iload_n 1, 1) := by decide +kernel
theorem dX2_findLongestWait_13 : decode cX2_findLongestWait 13 = .ok (.aload_n 0, 1) := by decide +kernel
theorem dX2_findLongestWait_14 : decode cX2_findLongestWait 14 = .ok (.getfield 25, 3) := by decide +kernel
theorem dX2_findLongestWait_17 : decode cX2_findLongestWait 17 = .ok (.iload_n 2, 1) := by decide +kernel
theorem dX2_findLongestWait_18 : decode cX2_findLongestWait 18 = .ok (.iaload, 1) := by decide +kernel
theorem dX2_findLongestWait_19 : decode cX2_findLongestWait 19 = .ok (.aload_n 0, 1) := by decide +kernel
theorem dX2_findLongestWait_20 : decode cX2_findLongestWait 20 = .ok (.getfield 25, 3) := by decide +kernel
theorem dX2_findLongestWait_23 : decode cX2_findLongestWait 23 = .ok (.iload_n 2, 1) := by decide +kernel
theorem dX2_findLongestWait_24 : decode cX2_findLongestWait 24 = .ok (.iconst 1, 1) := by decide +kernel
theorem dX2_findLongestWait_25 : decode cX2_findLongestWait 25 = .ok (.isub, 1) := by decide +kernel
theorem dX2_findLongestWait_26 : decode cX2_findLongestWait 26 = .ok (.iaload, 1) := by decide +kernel
theorem dX2_findLongestWait_27 : decode cX2_findLongestWait 27 = .ok (.isub, 1) := by decide +kernel
theorem dX2_findLongestWait_28 : decode cX2_findLongestWait 28 = .ok (.invokestatic 28, 3) := by decide +kernel
theorem dX2_findLongestWait_31 : decode cX2_findLongestWait 31 = .ok (.istore_n 1, 1) := by decide +kernel
theorem dX2_findLongestWait_32 : decode cX2_findLongestWait 32 = .ok (.iinc 2 1, 3) := by decide +kernel
theorem dX2_findLongestWait_35 : decode cX2_findLongestWait 35 = .ok (.goto (-31), 3) := by decide +kernel
theorem dX2_findLongestWait_38 : decode cX2_findLongestWait 38 = .ok (.iload_n 1, 1) := by decide +kernel
theorem dX2_findLongestWait_39 : decode cX2_findLongestWait 39 = .ok (.ireturn, 1) := by decide +kernel
theorem dX2_countClimbs_0 : decode cX2_countClimbs 0 = .ok (.iconst 0, 1) := by decide +kernel
theorem dX2_countClimbs_1 : decode cX2_countClimbs 1 = .ok (.istore_n 1, 1) := by decide +kernel
theorem dX2_countClimbs_2 : decode cX2_countClimbs 2 = .ok (.iconst 1, 1) := by decide +kernel
theorem dX2_countClimbs_3 : decode cX2_countClimbs 3 = .ok (.istore_n 2, 1) := by decide +kernel
theorem dX2_countClimbs_4 : decode cX2_countClimbs 4 = .ok (.iload_n 2, 1) := by decide +kernel
theorem dX2_countClimbs_5 : decode cX2_countClimbs 5 = .ok (.aload_n 0, 1) := by decide +kernel
theorem dX2_countClimbs_6 : decode cX2_countClimbs 6 = .ok (.getfield 9, 3) := by decide +kernel
theorem dX2_countClimbs_9 : decode cX2_countClimbs 9 = .ok (.if_icmp .ge 29, 3) := by decide +kernel
theorem dX2_countClimbs_12 : decode cX2_countClimbs 12 = .ok (.aload_n 0, 1) := by decide +kernel
theorem dX2_countClimbs_13 : decode cX2_countClimbs 13 = .ok (.getfield 15, 3) := by decide +kernel
theorem dX2_countClimbs_16 : decode cX2_countClimbs 16 = .ok (.iload_n 2, 1) := by decide +kernel
theorem dX2_countClimbs_17 : decode cX2_countClimbs 17 = .ok (.iaload, 1) := by decide +kernel
theorem dX2_countClimbs_18 : decode cX2_countClimbs 18 = .ok (.aload_n 0, 1) := by decide +kernel
theorem dX2_countClimbs_19 : decode cX2_countClimbs 19 = .ok (.getfield 15, 3) := by decide +kernel
theorem dX2_countClimbs_22 : decode cX2_countClimbs 22 = .ok (.iload_n 2, 1) := by decide +kernel
theorem dX2_countClimbs_23 : decode cX2_countClimbs 23 = .ok (.iconst 1, 1) := by decide +kernel
theorem dX2_countClimbs_24 : decode cX2_countClimbs 24 = .ok (.isub, 1) := by decide +kernel
theorem dX2_countClimbs_25 : decode cX2_countClimbs 25 = .ok (.iaload, 1) := by decide +kernel
theorem dX2_countClimbs_26 : decode cX2_countClimbs 26 = .ok (.if_icmp .le 6, 3) := by decide +kernel
theorem dX2_countClimbs_29 : decode cX2_countClimbs 29 = .ok (.iinc 1 1, 3) := by decide +kernel
theorem dX2_countClimbs_32 : decode cX2_countClimbs 32 = .ok (.iinc 2 1, 3) := by decide +kernel
theorem dX2_countClimbs_35 : decode cX2_countClimbs 35 = .ok (.goto (-31), 3) := by decide +kernel
theorem dX2_countClimbs_38 : decode cX2_countClimbs 38 = .ok (.iload_n 1, 1) := by decide +kernel
theorem dX2_countClimbs_39 : decode cX2_countClimbs 39 = .ok (.ireturn, 1) := by decide +kernel
theorem dX3_init_0 : decode cX3_init 0 = .ok (.aload_n 0, 1) := by decide +kernel
theorem dX3_init_1 : decode cX3_init 1 = .ok (.invokespecial 3, 3) := by decide +kernel
theorem dX3_init_4 : decode cX3_init 4 = .ok (.aload_n 0, 1) := by decide +kernel
theorem dX3_init_5 : decode cX3_init 5 = .ok (.iconst 0, 1) := by decide +kernel
theorem dX3_init_6 : decode cX3_init 6 = .ok (.putfield 9, 3) := by decide +kernel
theorem dX3_init_9 : decode cX3_init 9 = .ok (.aload_n 0, 1) := by decide +kernel
theorem dX3_init_10 : decode cX3_init 10 = .ok (.iconst 4, 1) := by decide +kernel
theorem dX3_init_11 : decode cX3_init 11 = .ok (.newarray .int, 2) := by decide +kernel
theorem dX3_init_13 : decode cX3_init 13 = .ok (.putfield 15, 3) := by decide +kernel
theorem dX3_init_16 : decode cX3_init 16 = .ok (.aload_n 0, 1) := by decide +kernel
theorem dX3_init_17 : decode cX3_init 17 = .ok (.iconst 4, 1) := by decide +kernel
theorem dX3_init_18 : decode cX3_init 18 = .ok (.newarray .int, 2) := by decide +kernel
theorem dX3_init_20 : decode cX3_init 20 = .ok (.putfield 19, 3) := by decide +kernel
theorem dX3_init_23 : decode cX3_init 23 = .ok (.return_, 1) := by decide +kernel
theorem dX3_append_0 : decode cX3_append 0 = .ok (.aload_n 0, 1) := by decide +kernel
theorem dX3_append_1 : decode cX3_append 1 = .ok (.getfield 9, 3) := by decide +kernel
theorem dX3_append_4 : decode cX3_append 4 = .ok (.istore_n 3, 1) := by decide +kernel
theorem dX3_append_5 : decode cX3_append 5 = .ok (.aload_n 0, 1) := by decide +kernel
theorem dX3_append_6 : decode cX3_append 6 = .ok (.getfield 15, 3) := by decide +kernel
theorem dX3_append_9 : decode cX3_append 9 = .ok (.iload_n 3, 1) := by decide +kernel
theorem dX3_append_10 : decode cX3_append 10 = .ok (.iload_n 1, 1) := by decide +kernel
theorem dX3_append_11 : decode cX3_append 11 = .ok (.iastore, 1) := by decide +kernel
theorem dX3_append_12 : decode cX3_append 12 = .ok (.aload_n 0, 1) := by decide +kernel
theorem dX3_append_13 : decode cX3_append 13 = .ok (.getfield 19, 3) := by decide +kernel
theorem dX3_append_16 : decode cX3_append 16 = .ok (.iload_n 3, 1) := by decide +kernel
theorem dX3_append_17 : decode cX3_append 17 = .ok (.iload_n 2, 1) := by decide +kernel
theorem dX3_append_18 : decode cX3_append 18 = .ok (.iastore, 1) := by decide +kernel
theorem dX3_append_19 : decode cX3_append 19 = .ok (.aload_n 0, 1) := by decide +kernel
theorem dX3_append_20 : decode cX3_append 20 = .ok (.iload_n 3, 1) := by decide +kernel
theorem dX3_append_21 : decode cX3_append 21 = .ok (.iconst 1, 1) := by decide +kernel
theorem dX3_append_22 : decode cX3_append 22 = .ok (.iadd, 1) := by decide +kernel
theorem dX3_append_23 : decode cX3_append 23 = .ok (.putfield 9, 3) := by decide +kernel
theorem dX3_append_26 : decode cX3_append 26 = .ok (.iload_n 3, 1) := by decide +kernel
theorem dX3_append_27 : decode cX3_append 27 = .ok (.ireturn, 1) := by decide +kernel
theorem dX3_judge_0 : decode cX3_judge 0 = .ok (.iconst 4, 1) := by decide +kernel
theorem dX3_judge_1 : decode cX3_judge 1 = .ok (.iload_n 3, 1) := by decide +kernel
theorem dX3_judge_2 : decode cX3_judge 2 = .ok (.iconst 3, 1) := by decide +kernel
theorem dX3_judge_3 : decode cX3_judge 3 = .ok (.idiv, 1) := by decide +kernel
theorem dX3_judge_4 : decode cX3_judge 4 = .ok (.iadd, 1) := by decide +kernel
theorem dX3_judge_5 : decode cX3_judge 5 = .ok (.istore 4, 2) := by decide +kernel
theorem dX3_judge_7 : decode cX3_judge 7 = .ok (.aload_n 0, 1) := by decide +kernel
theorem dX3_judge_8 : decode cX3_judge 8 = .ok (.getfield 15, 3) := by decide +kernel
theorem dX3_judge_11 : decode cX3_judge 11 = .ok (.iload_n 1, 1) := by decide +kernel
theorem dX3_judge_12 : decode cX3_judge 12 = .ok (.iaload, 1) := by decide +kernel
theorem dX3_judge_13 : decode cX3_judge 13 = .ok (.iload_n 2, 1) := by decide +kernel
theorem dX3_judge_14 : decode cX3_judge 14 = .ok (.if_icmp .ne 6, 3) := by decide +kernel
theorem dX3_judge_17 : decode cX3_judge 17 = .ok (.iinc 4 2, 3) := by decide +kernel
theorem dX3_judge_20 : decode cX3_judge 20 = .ok (.aload_n 0, 1) := by decide +kernel
theorem dX3_judge_21 : decode cX3_judge 21 = .ok (.getfield 19, 3) := by decide +kernel
theorem dX3_judge_24 : decode cX3_judge 24 = .ok (.iload_n 1, 1) := by decide +kernel
theorem dX3_judge_25 : decode cX3_judge 25 = .ok (.iaload, 1) := by decide +kernel
theorem dX3_judge_26 : decode cX3_judge 26 = .ok (.iload_n 2, 1) := by decide +kernel
theorem dX3_judge_27 : decode cX3_judge 27 = .ok (.if_icmp .ne 6, 3) := by decide +kernel
theorem dX3_judge_30 : decode cX3_judge 30 = .ok (.iinc 4 (-3), 3) := by decide +kernel
theorem dX3_judge_33 : decode cX3_judge 33 = .ok (.iconst 0, 1) := by decide +kernel
theorem dX3_judge_34 : decode cX3_judge 34 = .ok (.bipush 10, 2) := by decide +kernel
theorem dX3_judge_36 : decode cX3_judge 36 = .ok (.iload 4, 2) := by decide +kernel
theorem dX3_judge_38 : decode cX3_judge 38 = .ok (.invokestatic 22, 3) := by decide +kernel
theorem dX3_judge_41 : decode cX3_judge 41 = .ok (.invokestatic 28, 3) := by decide +kernel
theorem dX3_judge_44 : decode cX3_judge 44 = .ok (.ireturn, 1) := by decide +kernel
theorem dX4_init_0 : decode cX4_init 0 = .ok (.aload_n 0, 1) := by decide +kernel
theorem dX4_init_1 : decode cX4_init 1 = .ok (.invokespecial 3, 3) := by decide +kernel
theorem dX4_init_4 : decode cX4_init 4 = .ok (.aload_n 0, 1) := by decide +kernel
theorem dX4_init_5 : decode cX4_init 5 = .ok (.new 9, 3) := by decide +kernel
theorem dX4_init_8 : decode cX4_init 8 = .ok (.dup, 1) := by decide +kernel
theorem dX4_init_9 : decode cX4_init 9 = .ok (.invokespecial 11, 3) := by decide +kernel
theorem dX4_init_12 : decode cX4_init 12 = .ok (.putfield 12, 3) := by decide +kernel
theorem dX4_init_15 : decode cX4_init 15 = .ok (.aload_n 0, 1) := by decide +kernel
theorem dX4_init_16 : decode cX4_init 16 = .ok (.new 16, 3) := by decide +kernel
theorem dX4_init_19 : decode cX4_init 19 = .ok (.dup, 1) := by decide +kernel
theorem dX4_init_20 : decode cX4_init 20 = .ok (.aload_n 0, 1) := by decide +kernel
theorem dX4_init_21 : decode cX4_init 21 = .ok (.getfield 12, 3) := by decide +kernel
theorem dX4_init_24 : decode cX4_init 24 = .ok (.invokespecial 18, 3) := by decide +kernel
theorem dX4_init_27 : decode cX4_init 27 = .ok (.putfield 21, 3) := by decide +kernel
theorem dX4_init_30 : decode cX4_init 30 = .ok (.aload_n 0, 1) := by decide +kernel
theorem dX4_init_31 : decode cX4_init 31 = .ok (.new 16, 3) := by decide +kernel
theorem dX4_init_34 : decode cX4_init 34 = .ok (.dup, 1) := by decide +kernel
theorem dX4_init_35 : decode cX4_init 35 = .ok (.aload_n 0, 1) := by decide +kernel
theorem dX4_init_36 : decode cX4_init 36 = .ok (.getfield 12, 3) := by decide +kernel
theorem dX4_init_39 : decode cX4_init 39 = .ok (.invokespecial 18, 3) := by decide +kernel
theorem dX4_init_42 : decode cX4_init 42 = .ok (.putfield 25, 3) := by decide +kernel
theorem dX4_init_45 : decode cX4_init 45 = .ok (.aload_n 0, 1) := by decide +kernel
theorem dX4_init_46 : decode cX4_init 46 = .ok (.new 28, 3) := by decide +kernel
theorem dX4_init_49 : decode cX4_init 49 = .ok (.dup, 1) := by decide +kernel
theorem dX4_init_50 : decode cX4_init 50 = .ok (.invokespecial 30, 3) := by decide +kernel
theorem dX4_init_53 : decode cX4_init 53 = .ok (.putfield 31, 3) := by decide +kernel
theorem dX4_init_56 : decode cX4_init 56 = .ok (.aload_n 0, 1) := by decide +kernel
theorem dX4_init_57 : decode cX4_init 57 = .ok (.new 35, 3) := by decide +kernel
theorem dX4_init_60 : decode cX4_init 60 = .ok (.dup, 1) := by decide +kernel
theorem dX4_init_61 : decode cX4_init 61 = .ok (.invokespecial 37, 3) := by decide +kernel
theorem dX4_init_64 : decode cX4_init 64 = .ok (.putfield 38, 3) := by decide +kernel
theorem dX4_init_67 : decode cX4_init 67 = .ok (.return_, 1) := by decide +kernel
theorem dX4_begin_0 : decode cX4_begin 0 = .ok (.iload_n 1, 1) := by decide +kernel
theorem dX4_begin_1 : decode cX4_begin 1 = .ok (.iconst 2, 1) := by decide +kernel
theorem dX4_begin_2 : decode cX4_begin 2 = .ok (.if_icmp .lt 9, 3) := by decide +kernel
theorem dX4_begin_5 : decode cX4_begin 5 = .ok (.iload_n 1, 1) := by decide +kernel
theorem dX4_begin_6 : decode cX4_begin 6 = .ok (.bipush 12, 2) := by decide +kernel
theorem dX4_begin_8 : decode cX4_begin 8 = .ok (.if_icmp .le 13, 3) := by decide +kernel
theorem dX4_begin_11 : decode cX4_begin 11 = .ok (.new 42, 3) := by decide +kernel
theorem dX4_begin_14 : decode cX4_begin 14 = .ok (.dup, 1) := by decide +kernel
theorem dX4_begin_15 : decode cX4_begin 15 = .ok (.ldc 44, 2) := by decide +kernel
theorem dX4_begin_17 : decode cX4_begin 17 = .ok (.invokespecial 46, 3) := by decide +kernel
theorem dX4_begin_20 : decode cX4_begin 20 = .ok (.athrow, 1) := by decide +kernel
theorem dX4_begin_21 : decode cX4_begin 21 = .ok (.aload_n 0, 1) := by decide +kernel
theorem dX4_begin_22 : decode cX4_begin 22 = .ok (.getfield 12, 3) := by decide +kernel
theorem dX4_begin_25 : decode cX4_begin 25 = .ok (.iload_n 1, 1) := by decide +kernel
theorem dX4_begin_26 : decode cX4_begin 26 = .ok (.invokevirtual 49, 3) := by decide +kernel
theorem dX4_begin_29 : decode cX4_begin 29 = .ok (.aload_n 0, 1) := by decide +kernel
theorem dX4_begin_30 : decode cX4_begin 30 = .ok (.getfield 21, 3) := by decide +kernel
theorem dX4_begin_33 : decode cX4_begin 33 = .ok (.invokevirtual 53, 3) := by decide +kernel
theorem dX4_begin_36 : decode cX4_begin 36 = .ok (.aload_n 0, 1) := by decide +kernel
theorem dX4_begin_37 : decode cX4_begin 37 = .ok (.getfield 31, 3) := by decide +kernel
theorem dX4_begin_40 : decode cX4_begin 40 = .ok (.iconst 0, 1) := by decide +kernel
theorem dX4_begin_41 : decode cX4_begin 41 = .ok (.putfield 56, 3) := by decide +kernel
theorem dX4_begin_44 : decode cX4_begin 44 = .ok (.aload_n 0, 1) := by decide +kernel
theorem dX4_begin_45 : decode cX4_begin 45 = .ok (.getfield 21, 3) := by decide +kernel
theorem dX4_begin_48 : decode cX4_begin 48 = .ok (.invokevirtual 60, 3) := by decide +kernel
theorem dX4_begin_51 : decode cX4_begin 51 = .ok (.ireturn, 1) := by decide +kernel
theorem dX4_addParagraph_0 : decode cX4_addParagraph 0 = .ok (.aload_n 0, 1) := by decide +kernel
theorem dX4_addParagraph_1 : decode cX4_addParagraph 1 = .ok (.iload_n 1, 1) := by decide +kernel
theorem dX4_addParagraph_2 : decode cX4_addParagraph 2 = .ok (.invokevirtual 64, 3) := by decide +kernel
theorem dX4_addParagraph_5 : decode cX4_addParagraph 5 = .ok (.iload_n 2, 1) := by decide +kernel
theorem dX4_addParagraph_6 : decode cX4_addParagraph 6 = .ok (.invokestatic 67, 3) := by decide +kernel
theorem dX4_addParagraph_9 : decode cX4_addParagraph 9 = .ok (.ifCond .eq 13, 3) := by decide +kernel
theorem dX4_addParagraph_12 : decode cX4_addParagraph 12 = .ok (.iload_n 3, 1) := by decide +kernel
theorem dX4_addParagraph_13 : decode cX4_addParagraph 13 = .ok (.ifCond .lt 9, 3) := by decide +kernel
theorem dX4_addParagraph_16 : decode cX4_addParagraph 16 = .ok (.iload_n 3, 1) := by decide +kernel
theorem dX4_addParagraph_17 : decode cX4_addParagraph 17 = .ok (.bipush 9, 2) := by decide +kernel
theorem dX4_addParagraph_19 : decode cX4_addParagraph 19 = .ok (.if_icmp .le 13, 3) := by decide +kernel
theorem dX4_addParagraph_22 : decode cX4_addParagraph 22 = .ok (.new 42, 3) := by decide +kernel
theorem dX4_addParagraph_25 : decode cX4_addParagraph 25 = .ok (.dup, 1) := by decide +kernel
theorem dX4_addParagraph_26 : decode cX4_addParagraph 26 = .ok (.ldc 71, 2) := by decide +kernel
theorem dX4_addParagraph_28 : decode cX4_addParagraph 28 = .ok (.invokespecial 46, 3) := by decide +kernel
theorem dX4_addParagraph_31 : decode cX4_addParagraph 31 = .ok (.athrow, 1) := by decide +kernel
theorem dX4_addParagraph_32 : decode cX4_addParagraph 32 = .ok (.aload_n 0, 1) := by decide +kernel
theorem dX4_addParagraph_33 : decode cX4_addParagraph 33 = .ok (.getfield 12, 3) := by decide +kernel
theorem dX4_addParagraph_36 : decode cX4_addParagraph 36 = .ok (.getfield 73, 3) := by decide +kernel
theorem dX4_addParagraph_39 : decode cX4_addParagraph 39 = .ok (.iload_n 1, 1) := by decide +kernel
theorem dX4_addParagraph_40 : decode cX4_addParagraph 40 = .ok (.iaload, 1) := by decide +kernel
theorem dX4_addParagraph_41 : decode cX4_addParagraph 41 = .ok (.bipush 9, 2) := by decide +kernel
theorem dX4_addParagraph_43 : decode cX4_addParagraph 43 = .ok (.if_icmp .lt 13, 3) := by decide +kernel
theorem dX4_addParagraph_46 : decode cX4_addParagraph 46 = .ok (.new 77, 3) := by decide +kernel
theorem dX4_addParagraph_49 : decode cX4_addParagraph 49 = .ok (.dup, 1) := by decide +kernel
theorem dX4_addParagraph_50 : decode cX4_addParagraph 50 = .ok (.ldc 79, 2) := by decide +kernel
theorem dX4_addParagraph_52 : decode cX4_addParagraph 52 = .ok (.invokespecial 81, 3) := by decide +kernel
theorem dX4_addParagraph_55 : decode cX4_addParagraph 55 = .ok (.athrow, 1) := by decide +kernel
theorem dX4_addParagraph_56 : decode cX4_addParagraph 56 = .ok (.aload_n 0, 1) := by decide +kernel
theorem dX4_addParagraph_57 : decode cX4_addParagraph 57 = .ok (.getfield 12, 3) := by decide +kernel
theorem dX4_addParagraph_60 : decode cX4_addParagraph 60 = .ok (.iload_n 1, 1) := by decide +kernel
theorem dX4_addParagraph_61 : decode cX4_addParagraph 61 = .ok (.iload_n 2, 1) := by decide +kernel
theorem dX4_addParagraph_62 : decode cX4_addParagraph 62 = .ok (.iload_n 3, 1) := by decide +kernel
theorem dX4_addParagraph_63 : decode cX4_addParagraph 63 = .ok (.invokevirtual 82, 3) := by decide +kernel
theorem dX4_addParagraph_66 : decode cX4_addParagraph 66 = .ok (.ireturn, 1) := by decide +kernel
theorem dX4_turnTopic_0 : decode cX4_turnTopic 0 = .ok (.iload_n 1, 1) := by decide +kernel
theorem dX4_turnTopic_1 : decode cX4_turnTopic 1 = .ok (.invokestatic 86, 3) := by decide +kernel
theorem dX4_turnTopic_4 : decode cX4_turnTopic 4 = .ok (.aload_n 0, 1) := by decide +kernel
theorem dX4_turnTopic_5 : decode cX4_turnTopic 5 = .ok (.getfield 21, 3) := by decide +kernel
theorem dX4_turnTopic_8 : decode cX4_turnTopic 8 = .ok (.getfield 89, 3) := by decide +kernel
theorem dX4_turnTopic_11 : decode cX4_turnTopic 11 = .ok (.iload_n 1, 1) := by decide +kernel
theorem dX4_turnTopic_12 : decode cX4_turnTopic 12 = .ok (.aload_n 0, 1) := by decide +kernel
theorem dX4_turnTopic_13 : decode cX4_turnTopic 13 = .ok (.getfield 21, 3) := by decide +kernel
theorem dX4_turnTopic_16 : decode cX4_turnTopic 16 = .ok (.getfield 89, 3) := by decide +kernel
theorem dX4_turnTopic_19 : decode cX4_turnTopic 19 = .ok (.iload_n 1, 1) := by decide +kernel
theorem dX4_turnTopic_20 : decode cX4_turnTopic 20 = .ok (.baload, 1) := by decide +kernel
theorem dX4_turnTopic_21 : decode cX4_turnTopic 21 = .ok (.ifCond .ne 7, 3) := by decide +kernel
theorem dX4_turnTopic_24 : decode cX4_turnTopic 24 = .ok (.iconst 1, 1) := by decide +kernel
theorem dX4_turnTopic_25 : decode cX4_turnTopic 25 = .ok (.goto 4, 3) := by decide +kernel
theorem dX4_turnTopic_28 : decode cX4_turnTopic 28 = .ok (.iconst 0, 1) := by decide +kernel
theorem dX4_turnTopic_29 : decode cX4_turnTopic 29 = .ok (.bastore, 1) := by decide +kernel
theorem dX4_turnTopic_30 : decode cX4_turnTopic 30 = .ok (.aload_n 0, 1) := by decide +kernel
theorem dX4_turnTopic_31 : decode cX4_turnTopic 31 = .ok (.getfield 21, 3) := by decide +kernel
theorem dX4_turnTopic_34 : decode cX4_turnTopic 34 = .ok (.getfield 89, 3) := by decide +kernel
theorem dX4_turnTopic_37 : decode cX4_turnTopic 37 = .ok (.iload_n 1, 1) := by decide +kernel
theorem dX4_turnTopic_38 : decode cX4_turnTopic 38 = .ok (.baload, 1) := by decide +kernel
theorem dX4_turnTopic_39 : decode cX4_turnTopic 39 = .ok (.ireturn, 1) := by decide +kernel
theorem dX4_setLimit_0 : decode cX4_setLimit 0 = .ok (.iload_n 1, 1) := by decide +kernel
theorem dX4_setLimit_1 : decode cX4_setLimit 1 = .ok (.iconst 1, 1) := by decide +kernel
theorem dX4_setLimit_2 : decode cX4_setLimit 2 = .ok (.if_icmp .lt 9, 3) := by decide +kernel
theorem dX4_setLimit_5 : decode cX4_setLimit 5 = .ok (.iload_n 1, 1) := by decide +kernel
theorem dX4_setLimit_6 : decode cX4_setLimit 6 = .ok (.bipush 99, 2) := by decide +kernel
theorem dX4_setLimit_8 : decode cX4_setLimit 8 = .ok (.if_icmp .le 13, 3) := by decide +kernel
theorem dX4_setLimit_11 : decode cX4_setLimit 11 = .ok (.new 42, 3) := by decide +kernel
theorem dX4_setLimit_14 : decode cX4_setLimit 14 = .ok (.dup, 1) := by decide +kernel
theorem dX4_setLimit_15 : decode cX4_setLimit 15 = .ok (.ldc 93, 2) := by decide +kernel
theorem dX4_setLimit_17 : decode cX4_setLimit 17 = .ok (.invokespecial 46, 3) := by decide +kernel
theorem dX4_setLimit_20 : decode cX4_setLimit 20 = .ok (.athrow, 1) := by decide +kernel
theorem dX4_setLimit_21 : decode cX4_setLimit 21 = .ok (.aload_n 0, 1) := by decide +kernel
theorem dX4_setLimit_22 : decode cX4_setLimit 22 = .ok (.getfield 12, 3) := by decide +kernel
theorem dX4_setLimit_25 : decode cX4_setLimit 25 = .ok (.getfield 95, 3) := by decide +kernel
theorem dX4_setLimit_28 : decode cX4_setLimit 28 = .ok (.istore_n 2, 1) := by decide +kernel
theorem dX4_setLimit_29 : decode cX4_setLimit 29 = .ok (.aload_n 0, 1) := by decide +kernel
theorem dX4_setLimit_30 : decode cX4_setLimit 30 = .ok (.getfield 12, 3) := by decide +kernel
theorem dX4_setLimit_33 : decode cX4_setLimit 33 = .ok (.iload_n 1, 1) := by decide +kernel
theorem dX4_setLimit_34 : decode cX4_setLimit 34 = .ok (.putfield 95, 3) := by decide +kernel
theorem dX4_setLimit_37 : decode cX4_setLimit 37 = .ok (.iload_n 2, 1) := by decide +kernel
theorem dX4_setLimit_38 : decode cX4_setLimit 38 = .ok (.ireturn, 1) := by decide +kernel
theorem dX4_addReader_0 : decode cX4_addReader 0 = .ok (.iload_n 1, 1) := by decide +kernel
theorem dX4_addReader_1 : decode cX4_addReader 1 = .ok (.invokestatic 67, 3) := by decide +kernel
theorem dX4_addReader_4 : decode cX4_addReader 4 = .ok (.ifCond .eq 14, 3) := by decide +kernel
theorem dX4_addReader_7 : decode cX4_addReader 7 = .ok (.iload_n 2, 1) := by decide +kernel
theorem dX4_addReader_8 : decode cX4_addReader 8 = .ok (.iconst 1, 1) := by decide +kernel
theorem dX4_addReader_9 : decode cX4_addReader 9 = .ok (.if_icmp .lt 9, 3) := by decide +kernel
theorem dX4_addReader_12 : decode cX4_addReader 12 = .ok (.iload_n 2, 1) := by decide +kernel
theorem dX4_addReader_13 : decode cX4_addReader 13 = .ok (.bipush 20, 2) := by decide +kernel
theorem dX4_addReader_15 : decode cX4_addReader 15 = .ok (.if_icmp .le 13, 3) := by decide +kernel
theorem dX4_addReader_18 : decode cX4_addReader 18 = .ok (.new 42, 3) := by decide +kernel
theorem dX4_addReader_21 : decode cX4_addReader 21 = .ok (.dup, 1) := by decide +kernel
theorem dX4_addReader_22 : decode cX4_addReader 22 = .ok (.ldc 98, 2) := by decide +kernel
theorem dX4_addReader_24 : decode cX4_addReader 24 = .ok (.invokespecial 46, 3) := by decide +kernel
theorem dX4_addReader_27 : decode cX4_addReader 27 = .ok (.athrow, 1) := by decide +kernel
theorem dX4_addReader_28 : decode cX4_addReader 28 = .ok (.aload_n 0, 1) := by decide +kernel
theorem dX4_addReader_29 : decode cX4_addReader 29 = .ok (.getfield 12, 3) := by decide +kernel
theorem dX4_addReader_32 : decode cX4_addReader 32 = .ok (.getfield 100, 3) := by decide +kernel
theorem dX4_addReader_35 : decode cX4_addReader 35 = .ok (.bipush 8, 2) := by decide +kernel
theorem dX4_addReader_37 : decode cX4_addReader 37 = .ok (.if_icmp .lt 13, 3) := by decide +kernel
theorem dX4_addReader_40 : decode cX4_addReader 40 = .ok (.new 77, 3) := by decide +kernel
theorem dX4_addReader_43 : decode cX4_addReader 43 = .ok (.dup, 1) := by decide +kernel
theorem dX4_addReader_44 : decode cX4_addReader 44 = .ok (.ldc 103, 2) := by decide +kernel
theorem dX4_addReader_46 : decode cX4_addReader 46 = .ok (.invokespecial 81, 3) := by decide +kernel
theorem dX4_addReader_49 : decode cX4_addReader 49 = .ok (.athrow, 1) := by decide +kernel
theorem dX4_addReader_50 : decode cX4_addReader 50 = .ok (.aload_n 0, 1) := by decide +kernel
theorem dX4_addReader_51 : decode cX4_addReader 51 = .ok (.getfield 12, 3) := by decide +kernel
theorem dX4_addReader_54 : decode cX4_addReader 54 = .ok (.getfield 100, 3) := by decide +kernel
theorem dX4_addReader_57 : decode cX4_addReader 57 = .ok (.istore_n 3, 1) := by decide +kernel
theorem dX4_addReader_58 : decode cX4_addReader 58 = .ok (.aload_n 0, 1) := by decide +kernel
theorem dX4_addReader_59 : decode cX4_addReader 59 = .ok (.getfield 12, 3) := by decide +kernel
theorem dX4_addReader_62 : decode cX4_addReader 62 = .ok (.getfield 105, 3) := by decide +kernel
theorem dX4_addReader_65 : decode cX4_addReader 65 = .ok (.iload_n 3, 1) := by decide +kernel
theorem dX4_addReader_66 : decode cX4_addReader 66 = .ok (.iload_n 1, 1) := by decide +kernel
theorem dX4_addReader_67 : decode cX4_addReader 67 = .ok (.iastore, 1) := by decide +kernel
theorem dX4_addReader_68 : decode cX4_addReader 68 = .ok (.aload_n 0, 1) := by decide +kernel
theorem dX4_addReader_69 : decode cX4_addReader 69 = .ok (.getfield 12, 3) := by decide +kernel
theorem dX4_addReader_72 : decode cX4_addReader 72 = .ok (.iload_n 3, 1) := by decide +kernel
theorem dX4_addReader_73 : decode cX4_addReader 73 = .ok (.iconst 1, 1) := by decide +kernel
theorem dX4_addReader_74 : decode cX4_addReader 74 = .ok (.iadd, 1) := by decide +kernel
theorem dX4_addReader_75 : decode cX4_addReader 75 = .ok (.putfield 100, 3) := by decide +kernel
theorem dX4_addReader_78 : decode cX4_addReader 78 = .ok (.aload_n 0, 1) := by decide +kernel
theorem dX4_addReader_79 : decode cX4_addReader 79 = .ok (.getfield 21, 3) := by decide +kernel
theorem dX4_addReader_82 : decode cX4_addReader 82 = .ok (.getfield 108, 3) := by decide +kernel
theorem dX4_addReader_85 : decode cX4_addReader 85 = .ok (.iload_n 3, 1) := by decide +kernel
theorem dX4_addReader_86 : decode cX4_addReader 86 = .ok (.iload_n 2, 1) := by decide +kernel
theorem dX4_addReader_87 : decode cX4_addReader 87 = .ok (.iastore, 1) := by decide +kernel
theorem dX4_addReader_88 : decode cX4_addReader 88 = .ok (.aload_n 0, 1) := by decide +kernel
theorem dX4_addReader_89 : decode cX4_addReader 89 = .ok (.getfield 21, 3) := by decide +kernel
theorem dX4_addReader_92 : decode cX4_addReader 92 = .ok (.getfield 111, 3) := by decide +kernel
theorem dX4_addReader_95 : decode cX4_addReader 95 = .ok (.iload_n 3, 1) := by decide +kernel
theorem dX4_addReader_96 : decode cX4_addReader 96 = .ok (.iconst 1, 1) := by decide +kernel
theorem dX4_addReader_97 : decode cX4_addReader 97 = .ok (.bastore, 1) := by decide +kernel
theorem dX4_addReader_98 : decode cX4_addReader 98 = .ok (.iload_n 3, 1) := by decide +kernel
theorem dX4_addReader_99 : decode cX4_addReader 99 = .ok (.ireturn, 1) := by decide +kernel
theorem dX4_addMirror_0 : decode cX4_addMirror 0 = .ok (.iload_n 1, 1) := by decide +kernel
theorem dX4_addMirror_1 : decode cX4_addMirror 1 = .ok (.invokestatic 67, 3) := by decide +kernel
theorem dX4_addMirror_4 : decode cX4_addMirror 4 = .ok (.ifCond .eq 15, 3) := by decide +kernel
theorem dX4_addMirror_7 : decode cX4_addMirror 7 = .ok (.iload_n 2, 1) := by decide +kernel
theorem dX4_addMirror_8 : decode cX4_addMirror 8 = .ok (.invokestatic 67, 3) := by decide +kernel
theorem dX4_addMirror_11 : decode cX4_addMirror 11 = .ok (.ifCond .eq 8, 3) := by decide +kernel
theorem dX4_addMirror_14 : decode cX4_addMirror 14 = .ok (.iload_n 1, 1) := by decide +kernel
theorem dX4_addMirror_15 : decode cX4_addMirror 15 = .ok (.iload_n 2, 1) := by decide +kernel
theorem dX4_addMirror_16 : decode cX4_addMirror 16 = .ok (.if_icmp .ne 13, 3) := by decide +kernel
theorem dX4_addMirror_19 : decode cX4_addMirror 19 = .ok (.new 42, 3) := by decide +kernel
theorem dX4_addMirror_22 : decode cX4_addMirror 22 = .ok (.dup, 1) := by decide +kernel
theorem dX4_addMirror_23 : decode cX4_addMirror 23 = .ok (.ldc 114, 2) := by decide +kernel
theorem dX4_addMirror_25 : decode cX4_addMirror 25 = .ok (.invokespecial 46, 3) := by decide +kernel
theorem dX4_addMirror_28 : decode cX4_addMirror 28 = .ok (.athrow, 1) := by decide +kernel
theorem dX4_addMirror_29 : decode cX4_addMirror 29 = .ok (.aload_n 0, 1) := by decide +kernel
theorem dX4_addMirror_30 : decode cX4_addMirror 30 = .ok (.getfield 38, 3) := by decide +kernel
theorem dX4_addMirror_33 : decode cX4_addMirror 33 = .ok (.getfield 116, 3) := by decide +kernel
theorem dX4_addMirror_36 : decode cX4_addMirror 36 = .ok (.iconst 4, 1) := by decide +kernel
theorem dX4_addMirror_37 : decode cX4_addMirror 37 = .ok (.if_icmp .lt 13, 3) := by decide +kernel
theorem dX4_addMirror_40 : decode cX4_addMirror 40 = .ok (.new 77, 3) := by decide +kernel
theorem dX4_addMirror_43 : decode cX4_addMirror 43 = .ok (.dup, 1) := by decide +kernel
theorem dX4_addMirror_44 : decode cX4_addMirror 44 = .ok (.ldc 117, 2) := by decide +kernel
theorem dX4_addMirror_46 : decode cX4_addMirror 46 = .ok (.invokespecial 81, 3) := by decide +kernel
theorem dX4_addMirror_49 : decode cX4_addMirror 49 = .ok (.athrow, 1) := by decide +kernel
theorem dX4_addMirror_50 : decode cX4_addMirror 50 = .ok (.aload_n 0, 1) := by decide +kernel
theorem dX4_addMirror_51 : decode cX4_addMirror 51 = .ok (.getfield 38, 3) := by decide +kernel
theorem dX4_addMirror_54 : decode cX4_addMirror 54 = .ok (.iload_n 1, 1) := by decide +kernel
theorem dX4_addMirror_55 : decode cX4_addMirror 55 = .ok (.iload_n 2, 1) := by decide +kernel
theorem dX4_addMirror_56 : decode cX4_addMirror 56 = .ok (.invokevirtual 119, 3) := by decide +kernel
theorem dX4_addMirror_59 : decode cX4_addMirror 59 = .ok (.ireturn, 1) := by decide +kernel
theorem dX4_call_0 : decode cX4_call 0 = .ok (.aload_n 0, 1) := by decide +kernel
theorem dX4_call_1 : decode cX4_call 1 = .ok (.iload_n 1, 1) := by decide +kernel
theorem dX4_call_2 : decode cX4_call 2 = .ok (.invokevirtual 64, 3) := by decide +kernel
theorem dX4_call_5 : decode cX4_call 5 = .ok (.aload_n 0, 1) := by decide +kernel
theorem dX4_call_6 : decode cX4_call 6 = .ok (.getfield 21, 3) := by decide +kernel
theorem dX4_call_9 : decode cX4_call 9 = .ok (.getfield 122, 3) := by decide +kernel
theorem dX4_call_12 : decode cX4_call 12 = .ok (.iload_n 1, 1) := by decide +kernel
theorem dX4_call_13 : decode cX4_call 13 = .ok (.baload, 1) := by decide +kernel
theorem dX4_call_14 : decode cX4_call 14 = .ok (.ifCond .ne 7, 3) := by decide +kernel
theorem dX4_call_17 : decode cX4_call 17 = .ok (.iconst 1, 1) := by decide +kernel
theorem dX4_call_18 : decode cX4_call 18 = .ok (.goto 4, 3) := by decide +kernel
theorem dX4_call_21 : decode cX4_call 21 = .ok (.iconst 0, 1) := by decide +kernel
theorem dX4_call_22 : decode cX4_call 22 = .ok (.istore_n 2, 1) := by decide +kernel
theorem dX4_call_23 : decode cX4_call 23 = .ok (.aload_n 0, 1) := by decide +kernel
theorem dX4_call_24 : decode cX4_call 24 = .ok (.getfield 21, 3) := by decide +kernel
theorem dX4_call_27 : decode cX4_call 27 = .ok (.getfield 122, 3) := by decide +kernel
theorem dX4_call_30 : decode cX4_call 30 = .ok (.iload_n 1, 1) := by decide +kernel
theorem dX4_call_31 : decode cX4_call 31 = .ok (.iconst 1, 1) := by decide +kernel
theorem dX4_call_32 : decode cX4_call 32 = .ok (.bastore, 1) := by decide +kernel
theorem dX4_call_33 : decode cX4_call 33 = .ok (.iload_n 2, 1) := by decide +kernel
theorem dX4_call_34 : decode cX4_call 34 = .ok (.ireturn, 1) := by decide +kernel
theorem dX4_repair_0 : decode cX4_repair 0 = .ok (.aload_n 0, 1) := by decide +kernel
theorem dX4_repair_1 : decode cX4_repair 1 = .ok (.getfield 21, 3) := by decide +kernel
theorem dX4_repair_4 : decode cX4_repair 4 = .ok (.getfield 125, 3) := by decide +kernel
theorem dX4_repair_7 : decode cX4_repair 7 = .ok (.istore_n 1, 1) := by decide +kernel
theorem dX4_repair_8 : decode cX4_repair 8 = .ok (.aload_n 0, 1) := by decide +kernel
theorem dX4_repair_9 : decode cX4_repair 9 = .ok (.getfield 21, 3) := by decide +kernel
theorem dX4_repair_12 : decode cX4_repair 12 = .ok (.iconst 0, 1) := by decide +kernel
theorem dX4_repair_13 : decode cX4_repair 13 = .ok (.putfield 125, 3) := by decide +kernel
theorem dX4_repair_16 : decode cX4_repair 16 = .ok (.aload_n 0, 1) := by decide +kernel
theorem dX4_repair_17 : decode cX4_repair 17 = .ok (.getfield 21, 3) := by decide +kernel
theorem dX4_repair_20 : decode cX4_repair 20 = .ok (.iconst 0, 1) := by decide +kernel
theorem dX4_repair_21 : decode cX4_repair 21 = .ok (.putfield 128, 3) := by decide +kernel
theorem dX4_repair_24 : decode cX4_repair 24 = .ok (.iload_n 1, 1) := by decide +kernel
theorem dX4_repair_25 : decode cX4_repair 25 = .ok (.ireturn, 1) := by decide +kernel
theorem dX4_passHours_0 : decode cX4_passHours 0 = .ok (.iload_n 1, 1) := by decide +kernel
theorem dX4_passHours_1 : decode cX4_passHours 1 = .ok (.iconst 1, 1) := by decide +kernel
theorem dX4_passHours_2 : decode cX4_passHours 2 = .ok (.if_icmp .lt 9, 3) := by decide +kernel
theorem dX4_passHours_5 : decode cX4_passHours 5 = .ok (.iload_n 1, 1) := by decide +kernel
theorem dX4_passHours_6 : decode cX4_passHours 6 = .ok (.bipush 60, 2) := by decide +kernel
theorem dX4_passHours_8 : decode cX4_passHours 8 = .ok (.if_icmp .le 13, 3) := by decide +kernel
theorem dX4_passHours_11 : decode cX4_passHours 11 = .ok (.new 42, 3) := by decide +kernel
theorem dX4_passHours_14 : decode cX4_passHours 14 = .ok (.dup, 1) := by decide +kernel
theorem dX4_passHours_15 : decode cX4_passHours 15 = .ok (.ldc 131, 2) := by decide +kernel
theorem dX4_passHours_17 : decode cX4_passHours 17 = .ok (.invokespecial 46, 3) := by decide +kernel
theorem dX4_passHours_20 : decode cX4_passHours 20 = .ok (.athrow, 1) := by decide +kernel
theorem dX4_passHours_21 : decode cX4_passHours 21 = .ok (.aload_n 0, 1) := by decide +kernel
theorem dX4_passHours_22 : decode cX4_passHours 22 = .ok (.getfield 31, 3) := by decide +kernel
theorem dX4_passHours_25 : decode cX4_passHours 25 = .ok (.getfield 56, 3) := by decide +kernel
theorem dX4_passHours_28 : decode cX4_passHours 28 = .ok (.istore_n 2, 1) := by decide +kernel
theorem dX4_passHours_29 : decode cX4_passHours 29 = .ok (.iconst 0, 1) := by decide +kernel
theorem dX4_passHours_30 : decode cX4_passHours 30 = .ok (.istore_n 3, 1) := by decide +kernel
theorem dX4_passHours_31 : decode cX4_passHours 31 = .ok (.iload_n 3, 1) := by decide +kernel
theorem dX4_passHours_32 : decode cX4_passHours 32 = .ok (.iload_n 1, 1) := by decide +kernel
theorem dX4_passHours_33 : decode cX4_passHours 33 = .ok (.if_icmp .ge 68, 3) := by decide +kernel
theorem dX4_passHours_36 : decode cX4_passHours 36 = .ok (.aload_n 0, 1) := by decide +kernel
theorem dX4_passHours_37 : decode cX4_passHours 37 = .ok (.getfield 21, 3) := by decide +kernel
theorem dX4_passHours_40 : decode cX4_passHours 40 = .ok (.getfield 133, 3) := by decide +kernel
theorem dX4_passHours_43 : decode cX4_passHours 43 = .ok (.istore 4, 2) := by decide +kernel
theorem dX4_passHours_45 : decode cX4_passHours 45 = .ok (.aload_n 0, 1) := by decide +kernel
theorem dX4_passHours_46 : decode cX4_passHours 46 = .ok (.getfield 21, 3) := by decide +kernel
theorem dX4_passHours_49 : decode cX4_passHours 49 = .ok (.invokevirtual 136, 3) := by decide +kernel
theorem dX4_passHours_52 : decode cX4_passHours 52 = .ok (.istore 5, 2) := by decide +kernel
theorem dX4_passHours_54 : decode cX4_passHours 54 = .ok (.iload 5, 2) := by decide +kernel
theorem dX4_passHours_56 : decode cX4_passHours 56 = .ok (.iconst (-1), 1) := by decide +kernel
theorem dX4_passHours_57 : decode cX4_passHours 57 = .ok (.if_icmp .eq 38, 3) := by decide +kernel
theorem dX4_passHours_60 : decode cX4_passHours 60 = .ok (.aload_n 0, 1) := by decide +kernel
theorem dX4_passHours_61 : decode cX4_passHours 61 = .ok (.getfield 31, 3) := by decide +kernel
theorem dX4_passHours_64 : decode cX4_passHours 64 = .ok (.aload_n 0, 1) := by decide +kernel
theorem dX4_passHours_65 : decode cX4_passHours 65 = .ok (.getfield 21, 3) := by decide +kernel
theorem dX4_passHours_68 : decode cX4_passHours 68 = .ok (.getfield 139, 3) := by decide +kernel
theorem dX4_passHours_71 : decode cX4_passHours 71 = .ok (.aload_n 0, 1) := by decide +kernel
theorem dX4_passHours_72 : decode cX4_passHours 72 = .ok (.getfield 21, 3) := by decide +kernel
theorem dX4_passHours_75 : decode cX4_passHours 75 = .ok (.getfield 142, 3) := by decide +kernel
theorem dX4_passHours_78 : decode cX4_passHours 78 = .ok (.aload_n 0, 1) := by decide +kernel
theorem dX4_passHours_79 : decode cX4_passHours 79 = .ok (.getfield 21, 3) := by decide +kernel
theorem dX4_passHours_82 : decode cX4_passHours 82 = .ok (.getfield 139, 3) := by decide +kernel
theorem dX4_passHours_85 : decode cX4_passHours 85 = .ok (.iaload, 1) := by decide +kernel
theorem dX4_passHours_86 : decode cX4_passHours 86 = .ok (.iconst 1, 1) := by decide +kernel
theorem dX4_passHours_87 : decode cX4_passHours 87 = .ok (.isub, 1) := by decide +kernel
theorem dX4_passHours_88 : decode cX4_passHours 88 = .ok (.iload 5, 2) := by decide +kernel
theorem dX4_passHours_90 : decode cX4_passHours 90 = .ok (.iload 4, 2) := by decide +kernel
theorem dX4_passHours_92 : decode cX4_passHours 92 = .ok (.invokevirtual 145, 3) := by decide +kernel
theorem dX4_passHours_95 : decode cX4_passHours 95 = .ok (.iinc 3 1, 3) := by decide +kernel
theorem dX4_passHours_98 : decode cX4_passHours 98 = .ok (.goto (-67), 3) := by decide +kernel
theorem dX4_passHours_101 : decode cX4_passHours 101 = .ok (.aload_n 0, 1) := by decide +kernel
theorem dX4_passHours_102 : decode cX4_passHours 102 = .ok (.getfield 31, 3) := by decide +kernel
theorem dX4_passHours_105 : decode cX4_passHours 105 = .ok (.getfield 56, 3) := by decide +kernel
theorem dX4_passHours_108 : decode cX4_passHours 108 = .ok (.iload_n 2, 1) := by decide +kernel
theorem dX4_passHours_109 : decode cX4_passHours 109 = .ok (.isub, 1) := by decide +kernel
theorem dX4_passHours_110 : decode cX4_passHours 110 = .ok (.ireturn, 1) := by decide +kernel
theorem dX4_floors_0 : decode cX4_floors 0 = .ok (.aload_n 0, 1) := by decide +kernel
theorem dX4_floors_1 : decode cX4_floors 1 = .ok (.getfield 12, 3) := by decide +kernel
theorem dX4_floors_4 : decode cX4_floors 4 = .ok (.getfield 148, 3) := by decide +kernel
theorem dX4_floors_7 : decode cX4_floors 7 = .ok (.ireturn, 1) := by decide +kernel
theorem dX4_hours_0 : decode cX4_hours 0 = .ok (.aload_n 0, 1) := by decide +kernel
theorem dX4_hours_1 : decode cX4_hours 1 = .ok (.getfield 21, 3) := by decide +kernel
theorem dX4_hours_4 : decode cX4_hours 4 = .ok (.getfield 133, 3) := by decide +kernel
theorem dX4_hours_7 : decode cX4_hours 7 = .ok (.ireturn, 1) := by decide +kernel
theorem dX4_liftAt_0 : decode cX4_liftAt 0 = .ok (.aload_n 0, 1) := by decide +kernel
theorem dX4_liftAt_1 : decode cX4_liftAt 1 = .ok (.getfield 21, 3) := by decide +kernel
theorem dX4_liftAt_4 : decode cX4_liftAt 4 = .ok (.getfield 139, 3) := by decide +kernel
theorem dX4_liftAt_7 : decode cX4_liftAt 7 = .ok (.ireturn, 1) := by decide +kernel
theorem dX4_goes_0 : decode cX4_goes 0 = .ok (.aload_n 0, 1) := by decide +kernel
theorem dX4_goes_1 : decode cX4_goes 1 = .ok (.getfield 21, 3) := by decide +kernel
theorem dX4_goes_4 : decode cX4_goes 4 = .ok (.getfield 151, 3) := by decide +kernel
theorem dX4_goes_7 : decode cX4_goes 7 = .ok (.ireturn, 1) := by decide +kernel
theorem dX4_isCalled_0 : decode cX4_isCalled 0 = .ok (.aload_n 0, 1) := by decide +kernel
theorem dX4_isCalled_1 : decode cX4_isCalled 1 = .ok (.iload_n 1, 1) := by decide +kernel
theorem dX4_isCalled_2 : decode cX4_isCalled 2 = .ok (.invokevirtual 64, 3) := by decide +kernel
theorem dX4_isCalled_5 : decode cX4_isCalled 5 = .ok (.aload_n 0, 1) := by decide +kernel
theorem dX4_isCalled_6 : decode cX4_isCalled 6 = .ok (.getfield 21, 3) := by decide +kernel
theorem dX4_isCalled_9 : decode cX4_isCalled 9 = .ok (.getfield 122, 3) := by decide +kernel
theorem dX4_isCalled_12 : decode cX4_isCalled 12 = .ok (.iload_n 1, 1) := by decide +kernel
theorem dX4_isCalled_13 : decode cX4_isCalled 13 = .ok (.baload, 1) := by decide +kernel
theorem dX4_isCalled_14 : decode cX4_isCalled 14 = .ok (.ireturn, 1) := by decide +kernel
theorem dX4_calls_0 : decode cX4_calls 0 = .ok (.aload_n 0, 1) := by decide +kernel
theorem dX4_calls_1 : decode cX4_calls 1 = .ok (.getfield 21, 3) := by decide +kernel
theorem dX4_calls_4 : decode cX4_calls 4 = .ok (.invokevirtual 154, 3) := by decide +kernel
theorem dX4_calls_7 : decode cX4_calls 7 = .ok (.ireturn, 1) := by decide +kernel
theorem dX4_stuckFor_0 : decode cX4_stuckFor 0 = .ok (.aload_n 0, 1) := by decide +kernel
theorem dX4_stuckFor_1 : decode cX4_stuckFor 1 = .ok (.getfield 21, 3) := by decide +kernel
theorem dX4_stuckFor_4 : decode cX4_stuckFor 4 = .ok (.getfield 125, 3) := by decide +kernel
theorem dX4_stuckFor_7 : decode cX4_stuckFor 7 = .ok (.ireturn, 1) := by decide +kernel
theorem dX4_wear_0 : decode cX4_wear 0 = .ok (.aload_n 0, 1) := by decide +kernel
theorem dX4_wear_1 : decode cX4_wear 1 = .ok (.getfield 21, 3) := by decide +kernel
theorem dX4_wear_4 : decode cX4_wear 4 = .ok (.getfield 128, 3) := by decide +kernel
theorem dX4_wear_7 : decode cX4_wear 7 = .ok (.ireturn, 1) := by decide +kernel
theorem dX4_limit_0 : decode cX4_limit 0 = .ok (.aload_n 0, 1) := by decide +kernel
theorem dX4_limit_1 : decode cX4_limit 1 = .ok (.getfield 12, 3) := by decide +kernel
theorem dX4_limit_4 : decode cX4_limit 4 = .ok (.getfield 95, 3) := by decide +kernel
theorem dX4_limit_7 : decode cX4_limit 7 = .ok (.ireturn, 1) := by decide +kernel
theorem dX4_suspense_0 : decode cX4_suspense 0 = .ok (.aload_n 0, 1) := by decide +kernel
theorem dX4_suspense_1 : decode cX4_suspense 1 = .ok (.getfield 21, 3) := by decide +kernel
theorem dX4_suspense_4 : decode cX4_suspense 4 = .ok (.getfield 157, 3) := by decide +kernel
theorem dX4_suspense_7 : decode cX4_suspense 7 = .ok (.ireturn, 1) := by decide +kernel
theorem dX4_paragraphs_0 : decode cX4_paragraphs 0 = .ok (.aload_n 0, 1) := by decide +kernel
theorem dX4_paragraphs_1 : decode cX4_paragraphs 1 = .ok (.iload_n 1, 1) := by decide +kernel
theorem dX4_paragraphs_2 : decode cX4_paragraphs 2 = .ok (.invokevirtual 64, 3) := by decide +kernel
theorem dX4_paragraphs_5 : decode cX4_paragraphs 5 = .ok (.aload_n 0, 1) := by decide +kernel
theorem dX4_paragraphs_6 : decode cX4_paragraphs 6 = .ok (.getfield 12, 3) := by decide +kernel
theorem dX4_paragraphs_9 : decode cX4_paragraphs 9 = .ok (.getfield 73, 3) := by decide +kernel
theorem dX4_paragraphs_12 : decode cX4_paragraphs 12 = .ok (.iload_n 1, 1) := by decide +kernel
theorem dX4_paragraphs_13 : decode cX4_paragraphs 13 = .ok (.iaload, 1) := by decide +kernel
theorem dX4_paragraphs_14 : decode cX4_paragraphs 14 = .ok (.ireturn, 1) := by decide +kernel
theorem dX4_nextParagraph_0 : decode cX4_nextParagraph 0 = .ok (.aload_n 0, 1) := by decide +kernel
theorem dX4_nextParagraph_1 : decode cX4_nextParagraph 1 = .ok (.iload_n 1, 1) := by decide +kernel
theorem dX4_nextParagraph_2 : decode cX4_nextParagraph 2 = .ok (.invokevirtual 64, 3) := by decide +kernel
theorem dX4_nextParagraph_5 : decode cX4_nextParagraph 5 = .ok (.aload_n 0, 1) := by decide +kernel
theorem dX4_nextParagraph_6 : decode cX4_nextParagraph 6 = .ok (.getfield 21, 3) := by decide +kernel
theorem dX4_nextParagraph_9 : decode cX4_nextParagraph 9 = .ok (.getfield 142, 3) := by decide +kernel
theorem dX4_nextParagraph_12 : decode cX4_nextParagraph 12 = .ok (.iload_n 1, 1) := by decide +kernel
theorem dX4_nextParagraph_13 : decode cX4_nextParagraph 13 = .ok (.iaload, 1) := by decide +kernel
theorem dX4_nextParagraph_14 : decode cX4_nextParagraph 14 = .ok (.aload_n 0, 1) := by decide +kernel
theorem dX4_nextParagraph_15 : decode cX4_nextParagraph 15 = .ok (.getfield 12, 3) := by decide +kernel
theorem dX4_nextParagraph_18 : decode cX4_nextParagraph 18 = .ok (.getfield 73, 3) := by decide +kernel
theorem dX4_nextParagraph_21 : decode cX4_nextParagraph 21 = .ok (.iload_n 1, 1) := by decide +kernel
theorem dX4_nextParagraph_22 : decode cX4_nextParagraph 22 = .ok (.iaload, 1) := by decide +kernel
theorem dX4_nextParagraph_23 : decode cX4_nextParagraph 23 = .ok (.if_icmp .ge 15, 3) := by decide +kernel
theorem dX4_nextParagraph_26 : decode cX4_nextParagraph 26 = .ok (.aload_n 0, 1) := by decide +kernel
theorem dX4_nextParagraph_27 : decode cX4_nextParagraph 27 = .ok (.getfield 21, 3) := by decide +kernel
theorem dX4_nextParagraph_30 : decode cX4_nextParagraph 30 = .ok (.getfield 142, 3) := by decide +kernel
theorem dX4_nextParagraph_33 : decode cX4_nextParagraph 33 = .ok (.iload_n 1, 1) := by decide +kernel
theorem dX4_nextParagraph_34 : decode cX4_nextParagraph 34 = .ok (.iaload, 1) := by decide +kernel
theorem dX4_nextParagraph_35 : decode cX4_nextParagraph 35 = .ok (.goto 4, 3) := by decide +kernel
theorem dX4_nextParagraph_38 : decode cX4_nextParagraph 38 = .ok (.iconst (-1), 1) := by decide +kernel
theorem dX4_nextParagraph_39 : decode cX4_nextParagraph 39 = .ok (.ireturn, 1) := by decide +kernel
theorem dX4_topicOf_0 : decode cX4_topicOf 0 = .ok (.aload_n 0, 1) := by decide +kernel
theorem dX4_topicOf_1 : decode cX4_topicOf 1 = .ok (.iload_n 1, 1) := by decide +kernel
theorem dX4_topicOf_2 : decode cX4_topicOf 2 = .ok (.iload_n 2, 1) := by decide +kernel
theorem dX4_topicOf_3 : decode cX4_topicOf 3 = .ok (.invokevirtual 160, 3) := by decide +kernel
theorem dX4_topicOf_6 : decode cX4_topicOf 6 = .ok (.aload_n 0, 1) := by decide +kernel
theorem dX4_topicOf_7 : decode cX4_topicOf 7 = .ok (.getfield 12, 3) := by decide +kernel
theorem dX4_topicOf_10 : decode cX4_topicOf 10 = .ok (.iload_n 1, 1) := by decide +kernel
theorem dX4_topicOf_11 : decode cX4_topicOf 11 = .ok (.iload_n 2, 1) := by decide +kernel
theorem dX4_topicOf_12 : decode cX4_topicOf 12 = .ok (.invokevirtual 164, 3) := by decide +kernel
theorem dX4_topicOf_15 : decode cX4_topicOf 15 = .ok (.ireturn, 1) := by decide +kernel
theorem dX4_thrillOf_0 : decode cX4_thrillOf 0 = .ok (.aload_n 0, 1) := by decide +kernel
theorem dX4_thrillOf_1 : decode cX4_thrillOf 1 = .ok (.iload_n 1, 1) := by decide +kernel
theorem dX4_thrillOf_2 : decode cX4_thrillOf 2 = .ok (.iload_n 2, 1) := by decide +kernel
theorem dX4_thrillOf_3 : decode cX4_thrillOf 3 = .ok (.invokevirtual 160, 3) := by decide +kernel
theorem dX4_thrillOf_6 : decode cX4_thrillOf 6 = .ok (.aload_n 0, 1) := by decide +kernel
theorem dX4_thrillOf_7 : decode cX4_thrillOf 7 = .ok (.getfield 12, 3) := by decide +kernel
theorem dX4_thrillOf_10 : decode cX4_thrillOf 10 = .ok (.iload_n 1, 1) := by decide +kernel
theorem dX4_thrillOf_11 : decode cX4_thrillOf 11 = .ok (.iload_n 2, 1) := by decide +kernel
theorem dX4_thrillOf_12 : decode cX4_thrillOf 12 = .ok (.invokevirtual 167, 3) := by decide +kernel
theorem dX4_thrillOf_15 : decode cX4_thrillOf 15 = .ok (.ireturn, 1) := by decide +kernel
theorem dX4_cutOn_0 : decode cX4_cutOn 0 = .ok (.aload_n 0, 1) := by decide +kernel
theorem dX4_cutOn_1 : decode cX4_cutOn 1 = .ok (.iload_n 1, 1) := by decide +kernel
theorem dX4_cutOn_2 : decode cX4_cutOn 2 = .ok (.invokevirtual 64, 3) := by decide +kernel
theorem dX4_cutOn_5 : decode cX4_cutOn 5 = .ok (.aload_n 0, 1) := by decide +kernel
theorem dX4_cutOn_6 : decode cX4_cutOn 6 = .ok (.getfield 21, 3) := by decide +kernel
theorem dX4_cutOn_9 : decode cX4_cutOn 9 = .ok (.getfield 170, 3) := by decide +kernel
theorem dX4_cutOn_12 : decode cX4_cutOn 12 = .ok (.iload_n 1, 1) := by decide +kernel
theorem dX4_cutOn_13 : decode cX4_cutOn 13 = .ok (.iaload, 1) := by decide +kernel
theorem dX4_cutOn_14 : decode cX4_cutOn 14 = .ok (.ireturn, 1) := by decide +kernel
theorem dX4_isForbidden_0 : decode cX4_isForbidden 0 = .ok (.iload_n 1, 1) := by decide +kernel
theorem dX4_isForbidden_1 : decode cX4_isForbidden 1 = .ok (.invokestatic 86, 3) := by decide +kernel
theorem dX4_isForbidden_4 : decode cX4_isForbidden 4 = .ok (.aload_n 0, 1) := by decide +kernel
theorem dX4_isForbidden_5 : decode cX4_isForbidden 5 = .ok (.getfield 21, 3) := by decide +kernel
theorem dX4_isForbidden_8 : decode cX4_isForbidden 8 = .ok (.getfield 89, 3) := by decide +kernel
theorem dX4_isForbidden_11 : decode cX4_isForbidden 11 = .ok (.iload_n 1, 1) := by decide +kernel
theorem dX4_isForbidden_12 : decode cX4_isForbidden 12 = .ok (.baload, 1) := by decide +kernel
theorem dX4_isForbidden_13 : decode cX4_isForbidden 13 = .ok (.ireturn, 1) := by decide +kernel
theorem dX4_cuts_0 : decode cX4_cuts 0 = .ok (.aload_n 0, 1) := by decide +kernel
theorem dX4_cuts_1 : decode cX4_cuts 1 = .ok (.getfield 21, 3) := by decide +kernel
theorem dX4_cuts_4 : decode cX4_cuts 4 = .ok (.invokevirtual 173, 3) := by decide +kernel
theorem dX4_cuts_7 : decode cX4_cuts 7 = .ok (.ireturn, 1) := by decide +kernel
theorem dX4_toCome_0 : decode cX4_toCome 0 = .ok (.iload_n 1, 1) := by decide +kernel
theorem dX4_toCome_1 : decode cX4_toCome 1 = .ok (.invokestatic 86, 3) := by decide +kernel
theorem dX4_toCome_4 : decode cX4_toCome 4 = .ok (.aload_n 0, 1) := by decide +kernel
theorem dX4_toCome_5 : decode cX4_toCome 5 = .ok (.getfield 21, 3) := by decide +kernel
theorem dX4_toCome_8 : decode cX4_toCome 8 = .ok (.iload_n 1, 1) := by decide +kernel
theorem dX4_toCome_9 : decode cX4_toCome 9 = .ok (.invokevirtual 176, 3) := by decide +kernel
theorem dX4_toCome_12 : decode cX4_toCome 12 = .ok (.ireturn, 1) := by decide +kernel
theorem dX4_instalments_0 : decode cX4_instalments 0 = .ok (.aload_n 0, 1) := by decide +kernel
theorem dX4_instalments_1 : decode cX4_instalments 1 = .ok (.getfield 31, 3) := by decide +kernel
theorem dX4_instalments_4 : decode cX4_instalments 4 = .ok (.getfield 56, 3) := by decide +kernel
theorem dX4_instalments_7 : decode cX4_instalments 7 = .ok (.ireturn, 1) := by decide +kernel
theorem dX4_floorIn_0 : decode cX4_floorIn 0 = .ok (.aload_n 0, 1) := by decide +kernel
theorem dX4_floorIn_1 : decode cX4_floorIn 1 = .ok (.iload_n 1, 1) := by decide +kernel
theorem dX4_floorIn_2 : decode cX4_floorIn 2 = .ok (.invokevirtual 180, 3) := by decide +kernel
theorem dX4_floorIn_5 : decode cX4_floorIn 5 = .ok (.aload_n 0, 1) := by decide +kernel
theorem dX4_floorIn_6 : decode cX4_floorIn 6 = .ok (.getfield 31, 3) := by decide +kernel
theorem dX4_floorIn_9 : decode cX4_floorIn 9 = .ok (.getfield 183, 3) := by decide +kernel
theorem dX4_floorIn_12 : decode cX4_floorIn 12 = .ok (.iload_n 1, 1) := by decide +kernel
theorem dX4_floorIn_13 : decode cX4_floorIn 13 = .ok (.iaload, 1) := by decide +kernel
theorem dX4_floorIn_14 : decode cX4_floorIn 14 = .ok (.ireturn, 1) := by decide +kernel
theorem dX4_paragraphIn_0 : decode cX4_paragraphIn 0 = .ok (.aload_n 0, 1) := by decide +kernel
theorem dX4_paragraphIn_1 : decode cX4_paragraphIn 1 = .ok (.iload_n 1, 1) := by decide +kernel
theorem dX4_paragraphIn_2 : decode cX4_paragraphIn 2 = .ok (.invokevirtual 180, 3) := by decide +kernel
theorem dX4_paragraphIn_5 : decode cX4_paragraphIn 5 = .ok (.aload_n 0, 1) := by decide +kernel
theorem dX4_paragraphIn_6 : decode cX4_paragraphIn 6 = .ok (.getfield 31, 3) := by decide +kernel
theorem dX4_paragraphIn_9 : decode cX4_paragraphIn 9 = .ok (.getfield 185, 3) := by decide +kernel
theorem dX4_paragraphIn_12 : decode cX4_paragraphIn 12 = .ok (.iload_n 1, 1) := by decide +kernel
theorem dX4_paragraphIn_13 : decode cX4_paragraphIn 13 = .ok (.iaload, 1) := by decide +kernel
theorem dX4_paragraphIn_14 : decode cX4_paragraphIn 14 = .ok (.ireturn, 1) := by decide +kernel
theorem dX4_thrillIn_0 : decode cX4_thrillIn 0 = .ok (.aload_n 0, 1) := by decide +kernel
theorem dX4_thrillIn_1 : decode cX4_thrillIn 1 = .ok (.iload_n 1, 1) := by decide +kernel
theorem dX4_thrillIn_2 : decode cX4_thrillIn 2 = .ok (.invokevirtual 180, 3) := by decide +kernel
theorem dX4_thrillIn_5 : decode cX4_thrillIn 5 = .ok (.aload_n 0, 1) := by decide +kernel
theorem dX4_thrillIn_6 : decode cX4_thrillIn 6 = .ok (.getfield 31, 3) := by decide +kernel
theorem dX4_thrillIn_9 : decode cX4_thrillIn 9 = .ok (.getfield 188, 3) := by decide +kernel
theorem dX4_thrillIn_12 : decode cX4_thrillIn 12 = .ok (.iload_n 1, 1) := by decide +kernel
theorem dX4_thrillIn_13 : decode cX4_thrillIn 13 = .ok (.iaload, 1) := by decide +kernel
theorem dX4_thrillIn_14 : decode cX4_thrillIn 14 = .ok (.ireturn, 1) := by decide +kernel
theorem dX4_hourIn_0 : decode cX4_hourIn 0 = .ok (.aload_n 0, 1) := by decide +kernel
theorem dX4_hourIn_1 : decode cX4_hourIn 1 = .ok (.iload_n 1, 1) := by decide +kernel
theorem dX4_hourIn_2 : decode cX4_hourIn 2 = .ok (.invokevirtual 180, 3) := by decide +kernel
theorem dX4_hourIn_5 : decode cX4_hourIn 5 = .ok (.aload_n 0, 1) := by decide +kernel
theorem dX4_hourIn_6 : decode cX4_hourIn 6 = .ok (.getfield 31, 3) := by decide +kernel
theorem dX4_hourIn_9 : decode cX4_hourIn 9 = .ok (.getfield 191, 3) := by decide +kernel
theorem dX4_hourIn_12 : decode cX4_hourIn 12 = .ok (.iload_n 1, 1) := by decide +kernel
theorem dX4_hourIn_13 : decode cX4_hourIn 13 = .ok (.iaload, 1) := by decide +kernel
theorem dX4_hourIn_14 : decode cX4_hourIn 14 = .ok (.ireturn, 1) := by decide +kernel
theorem dX4_mostThrilling_0 : decode cX4_mostThrilling 0 = .ok (.aload_n 0, 1) := by decide +kernel
theorem dX4_mostThrilling_1 : decode cX4_mostThrilling 1 = .ok (.getfield 31, 3) := by decide +kernel
theorem dX4_mostThrilling_4 : decode cX4_mostThrilling 4 = .ok (.invokevirtual 194, 3) := by decide +kernel
theorem dX4_mostThrilling_7 : decode cX4_mostThrilling 7 = .ok (.ireturn, 1) := by decide +kernel
theorem dX4_longestWait_0 : decode cX4_longestWait 0 = .ok (.aload_n 0, 1) := by decide +kernel
theorem dX4_longestWait_1 : decode cX4_longestWait 1 = .ok (.getfield 31, 3) := by decide +kernel
theorem dX4_longestWait_4 : decode cX4_longestWait 4 = .ok (.invokevirtual 197, 3) := by decide +kernel
theorem dX4_longestWait_7 : decode cX4_longestWait 7 = .ok (.ireturn, 1) := by decide +kernel
theorem dX4_climbs_0 : decode cX4_climbs 0 = .ok (.aload_n 0, 1) := by decide +kernel
theorem dX4_climbs_1 : decode cX4_climbs 1 = .ok (.getfield 31, 3) := by decide +kernel
theorem dX4_climbs_4 : decode cX4_climbs 4 = .ok (.invokevirtual 200, 3) := by decide +kernel
theorem dX4_climbs_7 : decode cX4_climbs 7 = .ok (.ireturn, 1) := by decide +kernel
theorem dX4_readers_0 : decode cX4_readers 0 = .ok (.aload_n 0, 1) := by decide +kernel
theorem dX4_readers_1 : decode cX4_readers 1 = .ok (.getfield 12, 3) := by decide +kernel
theorem dX4_readers_4 : decode cX4_readers 4 = .ok (.getfield 100, 3) := by decide +kernel
theorem dX4_readers_7 : decode cX4_readers 7 = .ok (.ireturn, 1) := by decide +kernel
theorem dX4_subscribers_0 : decode cX4_subscribers 0 = .ok (.aload_n 0, 1) := by decide +kernel
theorem dX4_subscribers_1 : decode cX4_subscribers 1 = .ok (.getfield 21, 3) := by decide +kernel
theorem dX4_subscribers_4 : decode cX4_subscribers 4 = .ok (.invokevirtual 60, 3) := by decide +kernel
theorem dX4_subscribers_7 : decode cX4_subscribers 7 = .ok (.ireturn, 1) := by decide +kernel
theorem dX4_tasteOf_0 : decode cX4_tasteOf 0 = .ok (.aload_n 0, 1) := by decide +kernel
theorem dX4_tasteOf_1 : decode cX4_tasteOf 1 = .ok (.iload_n 1, 1) := by decide +kernel
theorem dX4_tasteOf_2 : decode cX4_tasteOf 2 = .ok (.invokevirtual 203, 3) := by decide +kernel
theorem dX4_tasteOf_5 : decode cX4_tasteOf 5 = .ok (.aload_n 0, 1) := by decide +kernel
theorem dX4_tasteOf_6 : decode cX4_tasteOf 6 = .ok (.getfield 12, 3) := by decide +kernel
theorem dX4_tasteOf_9 : decode cX4_tasteOf 9 = .ok (.getfield 105, 3) := by decide +kernel
theorem dX4_tasteOf_12 : decode cX4_tasteOf 12 = .ok (.iload_n 1, 1) := by decide +kernel
theorem dX4_tasteOf_13 : decode cX4_tasteOf 13 = .ok (.iaload, 1) := by decide +kernel
theorem dX4_tasteOf_14 : decode cX4_tasteOf 14 = .ok (.ireturn, 1) := by decide +kernel
theorem dX4_warmthOf_0 : decode cX4_warmthOf 0 = .ok (.aload_n 0, 1) := by decide +kernel
theorem dX4_warmthOf_1 : decode cX4_warmthOf 1 = .ok (.iload_n 1, 1) := by decide +kernel
theorem dX4_warmthOf_2 : decode cX4_warmthOf 2 = .ok (.invokevirtual 203, 3) := by decide +kernel
theorem dX4_warmthOf_5 : decode cX4_warmthOf 5 = .ok (.aload_n 0, 1) := by decide +kernel
theorem dX4_warmthOf_6 : decode cX4_warmthOf 6 = .ok (.getfield 21, 3) := by decide +kernel
theorem dX4_warmthOf_9 : decode cX4_warmthOf 9 = .ok (.getfield 111, 3) := by decide +kernel
theorem dX4_warmthOf_12 : decode cX4_warmthOf 12 = .ok (.iload_n 1, 1) := by decide +kernel
theorem dX4_warmthOf_13 : decode cX4_warmthOf 13 = .ok (.baload, 1) := by decide +kernel
theorem dX4_warmthOf_14 : decode cX4_warmthOf 14 = .ok (.ifCond .eq 15, 3) := by decide +kernel
theorem dX4_warmthOf_17 : decode cX4_warmthOf 17 = .ok (.aload_n 0, 1) := by decide +kernel
theorem dX4_warmthOf_18 : decode cX4_warmthOf 18 = .ok (.getfield 21, 3) := by decide +kernel
theorem dX4_warmthOf_21 : decode cX4_warmthOf 21 = .ok (.getfield 108, 3) := by decide +kernel
theorem dX4_warmthOf_24 : decode cX4_warmthOf 24 = .ok (.iload_n 1, 1) := by decide +kernel
theorem dX4_warmthOf_25 : decode cX4_warmthOf 25 = .ok (.iaload, 1) := by decide +kernel
theorem dX4_warmthOf_26 : decode cX4_warmthOf 26 = .ok (.goto 4, 3) := by decide +kernel
theorem dX4_warmthOf_29 : decode cX4_warmthOf 29 = .ok (.iconst 0, 1) := by decide +kernel
theorem dX4_warmthOf_30 : decode cX4_warmthOf 30 = .ok (.ireturn, 1) := by decide +kernel
theorem dX4_isSubscriber_0 : decode cX4_isSubscriber 0 = .ok (.aload_n 0, 1) := by decide +kernel
theorem dX4_isSubscriber_1 : decode cX4_isSubscriber 1 = .ok (.iload_n 1, 1) := by decide +kernel
theorem dX4_isSubscriber_2 : decode cX4_isSubscriber 2 = .ok (.invokevirtual 203, 3) := by decide +kernel
theorem dX4_isSubscriber_5 : decode cX4_isSubscriber 5 = .ok (.aload_n 0, 1) := by decide +kernel
theorem dX4_isSubscriber_6 : decode cX4_isSubscriber 6 = .ok (.getfield 21, 3) := by decide +kernel
theorem dX4_isSubscriber_9 : decode cX4_isSubscriber 9 = .ok (.getfield 111, 3) := by decide +kernel
theorem dX4_isSubscriber_12 : decode cX4_isSubscriber 12 = .ok (.iload_n 1, 1) := by decide +kernel
theorem dX4_isSubscriber_13 : decode cX4_isSubscriber 13 = .ok (.baload, 1) := by decide +kernel
theorem dX4_isSubscriber_14 : decode cX4_isSubscriber 14 = .ok (.ireturn, 1) := by decide +kernel
theorem dX4_warmest_0 : decode cX4_warmest 0 = .ok (.aload_n 0, 1) := by decide +kernel
theorem dX4_warmest_1 : decode cX4_warmest 1 = .ok (.getfield 21, 3) := by decide +kernel
theorem dX4_warmest_4 : decode cX4_warmest 4 = .ok (.invokevirtual 206, 3) := by decide +kernel
theorem dX4_warmest_7 : decode cX4_warmest 7 = .ok (.ireturn, 1) := by decide +kernel
theorem dX4_mirrors_0 : decode cX4_mirrors 0 = .ok (.aload_n 0, 1) := by decide +kernel
theorem dX4_mirrors_1 : decode cX4_mirrors 1 = .ok (.getfield 38, 3) := by decide +kernel
theorem dX4_mirrors_4 : decode cX4_mirrors 4 = .ok (.getfield 116, 3) := by decide +kernel
theorem dX4_mirrors_7 : decode cX4_mirrors 7 = .ok (.ireturn, 1) := by decide +kernel
theorem dX4_grade_0 : decode cX4_grade 0 = .ok (.aload_n 0, 1) := by decide +kernel
theorem dX4_grade_1 : decode cX4_grade 1 = .ok (.iload_n 1, 1) := by decide +kernel
theorem dX4_grade_2 : decode cX4_grade 2 = .ok (.invokevirtual 209, 3) := by decide +kernel
theorem dX4_grade_5 : decode cX4_grade 5 = .ok (.aload_n 0, 1) := by decide +kernel
theorem dX4_grade_6 : decode cX4_grade 6 = .ok (.iload_n 2, 1) := by decide +kernel
theorem dX4_grade_7 : decode cX4_grade 7 = .ok (.invokevirtual 180, 3) := by decide +kernel
theorem dX4_grade_10 : decode cX4_grade 10 = .ok (.aload_n 0, 1) := by decide +kernel
theorem dX4_grade_11 : decode cX4_grade 11 = .ok (.iload_n 1, 1) := by decide +kernel
theorem dX4_grade_12 : decode cX4_grade 12 = .ok (.iload_n 2, 1) := by decide +kernel
theorem dX4_grade_13 : decode cX4_grade 13 = .ok (.invokevirtual 212, 3) := by decide +kernel
theorem dX4_grade_16 : decode cX4_grade 16 = .ok (.ireturn, 1) := by decide +kernel
theorem dX4_gradesBy_0 : decode cX4_gradesBy 0 = .ok (.aload_n 0, 1) := by decide +kernel
theorem dX4_gradesBy_1 : decode cX4_gradesBy 1 = .ok (.iload_n 1, 1) := by decide +kernel
theorem dX4_gradesBy_2 : decode cX4_gradesBy 2 = .ok (.invokevirtual 209, 3) := by decide +kernel
theorem dX4_gradesBy_5 : decode cX4_gradesBy 5 = .ok (.aload_n 0, 1) := by decide +kernel
theorem dX4_gradesBy_6 : decode cX4_gradesBy 6 = .ok (.iload_n 1, 1) := by decide +kernel
theorem dX4_gradesBy_7 : decode cX4_gradesBy 7 = .ok (.invokevirtual 215, 3) := by decide +kernel
theorem dX4_gradesBy_10 : decode cX4_gradesBy 10 = .ok (.ireturn, 1) := by decide +kernel
theorem dX4_favouriteOf_0 : decode cX4_favouriteOf 0 = .ok (.aload_n 0, 1) := by decide +kernel
theorem dX4_favouriteOf_1 : decode cX4_favouriteOf 1 = .ok (.iload_n 1, 1) := by decide +kernel
theorem dX4_favouriteOf_2 : decode cX4_favouriteOf 2 = .ok (.invokevirtual 209, 3) := by decide +kernel
theorem dX4_favouriteOf_5 : decode cX4_favouriteOf 5 = .ok (.iconst (-1), 1) := by decide +kernel
theorem dX4_favouriteOf_6 : decode cX4_favouriteOf 6 = .ok (.istore_n 2, 1) := by decide +kernel
theorem dX4_favouriteOf_7 : decode cX4_favouriteOf 7 = .ok (.iconst (-1), 1) := by decide +kernel
theorem dX4_favouriteOf_8 : decode cX4_favouriteOf 8 = .ok (.istore_n 3, 1) := by decide +kernel
theorem dX4_favouriteOf_9 : decode cX4_favouriteOf 9 = .ok (.iconst 0, 1) := by decide +kernel
theorem dX4_favouriteOf_10 : decode cX4_favouriteOf 10 = .ok (.istore 4, 2) := by decide +kernel
theorem dX4_favouriteOf_12 : decode cX4_favouriteOf 12 = .ok (.iload 4, 2) := by decide +kernel
theorem dX4_favouriteOf_14 : decode cX4_favouriteOf 14 = .ok (.aload_n 0, 1) := by decide +kernel
theorem dX4_favouriteOf_15 : decode cX4_favouriteOf 15 = .ok (.getfield 31, 3) := by decide +kernel
theorem dX4_favouriteOf_18 : decode cX4_favouriteOf 18 = .ok (.getfield 56, 3) := by decide +kernel
theorem dX4_favouriteOf_21 : decode cX4_favouriteOf 21 = .ok (.if_icmp .ge 30, 3) := by decide +kernel
theorem dX4_favouriteOf_24 : decode cX4_favouriteOf 24 = .ok (.aload_n 0, 1) := by decide +kernel
theorem dX4_favouriteOf_25 : decode cX4_favouriteOf 25 = .ok (.iload_n 1, 1) := by decide +kernel
theorem dX4_favouriteOf_26 : decode cX4_favouriteOf 26 = .ok (.iload 4, 2) := by decide +kernel
theorem dX4_favouriteOf_28 : decode cX4_favouriteOf 28 = .ok (.invokevirtual 212, 3) := by decide +kernel
theorem dX4_favouriteOf_31 : decode cX4_favouriteOf 31 = .ok (.istore 5, 2) := by decide +kernel
theorem dX4_favouriteOf_33 : decode cX4_favouriteOf 33 = .ok (.iload 5, 2) := by decide +kernel
theorem dX4_favouriteOf_35 : decode cX4_favouriteOf 35 = .ok (.iload_n 3, 1) := by decide +kernel
theorem dX4_favouriteOf_36 : decode cX4_favouriteOf 36 = .ok (.if_icmp .le 9, 3) := by decide +kernel
theorem dX4_favouriteOf_39 : decode cX4_favouriteOf 39 = .ok (.iload 5, 2) := by decide +kernel
theorem dX4_favouriteOf_41 : decode cX4_favouriteOf 41 = .ok (.istore_n 3, 1) := by decide +kernel
theorem dX4_favouriteOf_42 : decode cX4_favouriteOf 42 = .ok (.iload 4, 2) := by decide +kernel
theorem dX4_favouriteOf_44 : decode cX4_favouriteOf 44 = .ok (.istore_n 2, 1) := by decide +kernel
theorem dX4_favouriteOf_45 : decode cX4_favouriteOf 45 = .ok (.iinc 4 1, 3) := by decide +kernel
theorem dX4_favouriteOf_48 : decode cX4_favouriteOf 48 = .ok (.goto (-36), 3) := by decide +kernel
theorem dX4_favouriteOf_51 : decode cX4_favouriteOf 51 = .ok (.iload_n 2, 1) := by decide +kernel
theorem dX4_favouriteOf_52 : decode cX4_favouriteOf 52 = .ok (.ireturn, 1) := by decide +kernel
theorem dX4_kindest_0 : decode cX4_kindest 0 = .ok (.iconst (-1), 1) := by decide +kernel
theorem dX4_kindest_1 : decode cX4_kindest 1 = .ok (.istore_n 1, 1) := by decide +kernel
theorem dX4_kindest_2 : decode cX4_kindest 2 = .ok (.iconst (-1), 1) := by decide +kernel
theorem dX4_kindest_3 : decode cX4_kindest 3 = .ok (.istore_n 2, 1) := by decide +kernel
theorem dX4_kindest_4 : decode cX4_kindest 4 = .ok (.iconst 0, 1) := by decide +kernel
theorem dX4_kindest_5 : decode cX4_kindest 5 = .ok (.istore_n 3, 1) := by decide +kernel
theorem dX4_kindest_6 : decode cX4_kindest 6 = .ok (.iload_n 3, 1) := by decide +kernel
theorem dX4_kindest_7 : decode cX4_kindest 7 = .ok (.aload_n 0, 1) := by decide +kernel
theorem dX4_kindest_8 : decode cX4_kindest 8 = .ok (.getfield 38, 3) := by decide +kernel
theorem dX4_kindest_11 : decode cX4_kindest 11 = .ok (.getfield 116, 3) := by decide +kernel
theorem dX4_kindest_14 : decode cX4_kindest 14 = .ok (.if_icmp .ge 27, 3) := by decide +kernel
theorem dX4_kindest_17 : decode cX4_kindest 17 = .ok (.aload_n 0, 1) := by decide +kernel
theorem dX4_kindest_18 : decode cX4_kindest 18 = .ok (.iload_n 3, 1) := by decide +kernel
theorem dX4_kindest_19 : decode cX4_kindest 19 = .ok (.invokevirtual 215, 3) := by decide +kernel
theorem dX4_kindest_22 : decode cX4_kindest 22 = .ok (.istore 4, 2) := by decide +kernel
theorem dX4_kindest_24 : decode cX4_kindest 24 = .ok (.iload 4, 2) := by decide +kernel
theorem dX4_kindest_26 : decode cX4_kindest 26 = .ok (.iload_n 2, 1) := by decide +kernel
theorem dX4_kindest_27 : decode cX4_kindest 27 = .ok (.if_icmp .le 8, 3) := by decide +kernel
theorem dX4_kindest_30 : decode cX4_kindest 30 = .ok (.iload 4, 2) := by decide +kernel
theorem dX4_kindest_32 : decode cX4_kindest 32 = .ok (.istore_n 2, 1) := by decide +kernel
theorem dX4_kindest_33 : decode cX4_kindest 33 = .ok (.iload_n 3, 1) := by decide +kernel
theorem dX4_kindest_34 : decode cX4_kindest 34 = .ok (.istore_n 1, 1) := by decide +kernel
theorem dX4_kindest_35 : decode cX4_kindest 35 = .ok (.iinc 3 1, 3) := by decide +kernel
theorem dX4_kindest_38 : decode cX4_kindest 38 = .ok (.goto (-32), 3) := by decide +kernel
theorem dX4_kindest_41 : decode cX4_kindest 41 = .ok (.iload_n 1, 1) := by decide +kernel
theorem dX4_kindest_42 : decode cX4_kindest 42 = .ok (.ireturn, 1) := by decide +kernel
theorem dX4_meanWarmth_0 : decode cX4_meanWarmth 0 = .ok (.aload_n 0, 1) := by decide +kernel
theorem dX4_meanWarmth_1 : decode cX4_meanWarmth 1 = .ok (.getfield 21, 3) := by decide +kernel
theorem dX4_meanWarmth_4 : decode cX4_meanWarmth 4 = .ok (.invokevirtual 60, 3) := by decide +kernel
theorem dX4_meanWarmth_7 : decode cX4_meanWarmth 7 = .ok (.istore_n 1, 1) := by decide +kernel
theorem dX4_meanWarmth_8 : decode cX4_meanWarmth 8 = .ok (.iload_n 1, 1) := by decide +kernel
theorem dX4_meanWarmth_9 : decode cX4_meanWarmth 9 = .ok (.ifCond .ne 7, 3) := by decide +kernel
theorem dX4_meanWarmth_12 : decode cX4_meanWarmth 12 = .ok (.dconst 0, 1) := by decide +kernel
theorem dX4_meanWarmth_13 : decode cX4_meanWarmth 13 = .ok (.goto 14, 3) := by decide +kernel
theorem dX4_meanWarmth_16 : decode cX4_meanWarmth 16 = .ok (.aload_n 0, 1) := by decide +kernel
theorem dX4_meanWarmth_17 : decode cX4_meanWarmth 17 = .ok (.getfield 21, 3) := by decide +kernel
theorem dX4_meanWarmth_20 : decode cX4_meanWarmth 20 = .ok (.invokevirtual 228, 3) := by decide +kernel
theorem dX4_meanWarmth_23 : decode cX4_meanWarmth 23 = .ok (.i2d, 1) := by decide +kernel
theorem dX4_meanWarmth_24 : decode cX4_meanWarmth 24 = .ok (.iload_n 1, 1) := by decide +kernel
theorem dX4_meanWarmth_25 : decode cX4_meanWarmth 25 = .ok (.i2d, 1) := by decide +kernel
theorem dX4_meanWarmth_26 : decode cX4_meanWarmth 26 = .ok (.ddiv, 1) := by decide +kernel
theorem dX4_meanWarmth_27 : decode cX4_meanWarmth 27 = .ok (.dreturn, 1) := by decide +kernel
theorem dX4_judge_0 : decode cX4_judge 0 = .ok (.aload_n 0, 1) := by decide +kernel
theorem dX4_judge_1 : decode cX4_judge 1 = .ok (.getfield 12, 3) := by decide +kernel
theorem dX4_judge_4 : decode cX4_judge 4 = .ok (.aload_n 0, 1) := by decide +kernel
theorem dX4_judge_5 : decode cX4_judge 5 = .ok (.getfield 31, 3) := by decide +kernel
theorem dX4_judge_8 : decode cX4_judge 8 = .ok (.getfield 183, 3) := by decide +kernel
theorem dX4_judge_11 : decode cX4_judge 11 = .ok (.iload_n 2, 1) := by decide +kernel
theorem dX4_judge_12 : decode cX4_judge 12 = .ok (.iaload, 1) := by decide +kernel
theorem dX4_judge_13 : decode cX4_judge 13 = .ok (.aload_n 0, 1) := by decide +kernel
theorem dX4_judge_14 : decode cX4_judge 14 = .ok (.getfield 31, 3) := by decide +kernel
theorem dX4_judge_17 : decode cX4_judge 17 = .ok (.getfield 185, 3) := by decide +kernel
theorem dX4_judge_20 : decode cX4_judge 20 = .ok (.iload_n 2, 1) := by decide +kernel
theorem dX4_judge_21 : decode cX4_judge 21 = .ok (.iaload, 1) := by decide +kernel
theorem dX4_judge_22 : decode cX4_judge 22 = .ok (.invokevirtual 164, 3) := by decide +kernel
theorem dX4_judge_25 : decode cX4_judge 25 = .ok (.istore_n 3, 1) := by decide +kernel
theorem dX4_judge_26 : decode cX4_judge 26 = .ok (.aload_n 0, 1) := by decide +kernel
theorem dX4_judge_27 : decode cX4_judge 27 = .ok (.getfield 38, 3) := by decide +kernel
theorem dX4_judge_30 : decode cX4_judge 30 = .ok (.iload_n 1, 1) := by decide +kernel
theorem dX4_judge_31 : decode cX4_judge 31 = .ok (.iload_n 3, 1) := by decide +kernel
theorem dX4_judge_32 : decode cX4_judge 32 = .ok (.aload_n 0, 1) := by decide +kernel
theorem dX4_judge_33 : decode cX4_judge 33 = .ok (.getfield 31, 3) := by decide +kernel
theorem dX4_judge_36 : decode cX4_judge 36 = .ok (.getfield 188, 3) := by decide +kernel
theorem dX4_judge_39 : decode cX4_judge 39 = .ok (.iload_n 2, 1) := by decide +kernel
theorem dX4_judge_40 : decode cX4_judge 40 = .ok (.iaload, 1) := by decide +kernel
theorem dX4_judge_41 : decode cX4_judge 41 = .ok (.invokevirtual 370, 3) := by decide +kernel
theorem dX4_judge_44 : decode cX4_judge 44 = .ok (.ireturn, 1) := by decide +kernel
theorem dX4_sumOfGrades_0 : decode cX4_sumOfGrades 0 = .ok (.iconst 0, 1) := by decide +kernel
theorem dX4_sumOfGrades_1 : decode cX4_sumOfGrades 1 = .ok (.istore_n 2, 1) := by decide +kernel
theorem dX4_sumOfGrades_2 : decode cX4_sumOfGrades 2 = .ok (.iconst 0, 1) := by decide +kernel
theorem dX4_sumOfGrades_3 : decode cX4_sumOfGrades 3 = .ok (.istore_n 3, 1) := by decide +kernel
theorem dX4_sumOfGrades_4 : decode cX4_sumOfGrades 4 = .ok (.iload_n 3, 1) := by decide +kernel
theorem dX4_sumOfGrades_5 : decode cX4_sumOfGrades 5 = .ok (.aload_n 0, 1) := by decide +kernel
theorem dX4_sumOfGrades_6 : decode cX4_sumOfGrades 6 = .ok (.getfield 31, 3) := by decide +kernel
theorem dX4_sumOfGrades_9 : decode cX4_sumOfGrades 9 = .ok (.getfield 56, 3) := by decide +kernel
theorem dX4_sumOfGrades_12 : decode cX4_sumOfGrades 12 = .ok (.if_icmp .ge 18, 3) := by decide +kernel
theorem dX4_sumOfGrades_15 : decode cX4_sumOfGrades 15 = .ok (.iload_n 2, 1) := by decide +kernel
theorem dX4_sumOfGrades_16 : decode cX4_sumOfGrades 16 = .ok (.aload_n 0, 1) := by decide +kernel
theorem dX4_sumOfGrades_17 : decode cX4_sumOfGrades 17 = .ok (.iload_n 1, 1) := by decide +kernel
theorem dX4_sumOfGrades_18 : decode cX4_sumOfGrades 18 = .ok (.iload_n 3, 1) := by decide +kernel
theorem dX4_sumOfGrades_19 : decode cX4_sumOfGrades 19 = .ok (.invokevirtual 212, 3) := by decide +kernel
theorem dX4_sumOfGrades_22 : decode cX4_sumOfGrades 22 = .ok (.iadd, 1) := by decide +kernel
theorem dX4_sumOfGrades_23 : decode cX4_sumOfGrades 23 = .ok (.istore_n 2, 1) := by decide +kernel
theorem dX4_sumOfGrades_24 : decode cX4_sumOfGrades 24 = .ok (.iinc 3 1, 3) := by decide +kernel
theorem dX4_sumOfGrades_27 : decode cX4_sumOfGrades 27 = .ok (.goto (-23), 3) := by decide +kernel
theorem dX4_sumOfGrades_30 : decode cX4_sumOfGrades 30 = .ok (.iload_n 2, 1) := by decide +kernel
theorem dX4_sumOfGrades_31 : decode cX4_sumOfGrades 31 = .ok (.ireturn, 1) := by decide +kernel
theorem dX4_isTopic_0 : decode cX4_isTopic 0 = .ok (.iload_n 0, 1) := by decide +kernel
theorem dX4_isTopic_1 : decode cX4_isTopic 1 = .ok (.ifCond .lt 13, 3) := by decide +kernel
theorem dX4_isTopic_4 : decode cX4_isTopic 4 = .ok (.iload_n 0, 1) := by decide +kernel
theorem dX4_isTopic_5 : decode cX4_isTopic 5 = .ok (.bipush 8, 2) := by decide +kernel
theorem dX4_isTopic_7 : decode cX4_isTopic 7 = .ok (.if_icmp .ge 7, 3) := by decide +kernel
theorem dX4_isTopic_10 : decode cX4_isTopic 10 = .ok (.iconst 1, 1) := by decide +kernel
theorem dX4_isTopic_11 : decode cX4_isTopic 11 = .ok (.goto 4, 3) := by decide +kernel
theorem dX4_isTopic_14 : decode cX4_isTopic 14 = .ok (.iconst 0, 1) := by decide +kernel
theorem dX4_isTopic_15 : decode cX4_isTopic 15 = .ok (.ireturn, 1) := by decide +kernel
theorem dX4_needFloor_0 : decode cX4_needFloor 0 = .ok (.iload_n 1, 1) := by decide +kernel
theorem dX4_needFloor_1 : decode cX4_needFloor 1 = .ok (.ifCond .lt 14, 3) := by decide +kernel
theorem dX4_needFloor_4 : decode cX4_needFloor 4 = .ok (.iload_n 1, 1) := by decide +kernel
theorem dX4_needFloor_5 : decode cX4_needFloor 5 = .ok (.aload_n 0, 1) := by decide +kernel
theorem dX4_needFloor_6 : decode cX4_needFloor 6 = .ok (.getfield 12, 3) := by decide +kernel
theorem dX4_needFloor_9 : decode cX4_needFloor 9 = .ok (.getfield 148, 3) := by decide +kernel
theorem dX4_needFloor_12 : decode cX4_needFloor 12 = .ok (.if_icmp .lt 14, 3) := by decide +kernel
theorem dX4_needFloor_15 : decode cX4_needFloor 15 = .ok (.new 372, 3) := by decide +kernel
theorem dX4_needFloor_18 : decode cX4_needFloor 18 = .ok (.dup, 1) := by decide +kernel
theorem dX4_needFloor_19 : decode cX4_needFloor 19 = .ok (.ldc_w 374, 3) := by decide +kernel
theorem dX4_needFloor_22 : decode cX4_needFloor 22 = .ok (.invokespecial 376, 3) := by decide +kernel
theorem dX4_needFloor_25 : decode cX4_needFloor 25 = .ok (.athrow, 1) := by decide +kernel
theorem dX4_needFloor_26 : decode cX4_needFloor 26 = .ok (.return_, 1) := by decide +kernel
theorem dX4_needParagraph_0 : decode cX4_needParagraph 0 = .ok (.aload_n 0, 1) := by decide +kernel
theorem dX4_needParagraph_1 : decode cX4_needParagraph 1 = .ok (.iload_n 1, 1) := by decide +kernel
theorem dX4_needParagraph_2 : decode cX4_needParagraph 2 = .ok (.invokevirtual 64, 3) := by decide +kernel
theorem dX4_needParagraph_5 : decode cX4_needParagraph 5 = .ok (.iload_n 2, 1) := by decide +kernel
theorem dX4_needParagraph_6 : decode cX4_needParagraph 6 = .ok (.ifCond .lt 16, 3) := by decide +kernel
theorem dX4_needParagraph_9 : decode cX4_needParagraph 9 = .ok (.iload_n 2, 1) := by decide +kernel
theorem dX4_needParagraph_10 : decode cX4_needParagraph 10 = .ok (.aload_n 0, 1) := by decide +kernel
theorem dX4_needParagraph_11 : decode cX4_needParagraph 11 = .ok (.getfield 12, 3) := by decide +kernel
theorem dX4_needParagraph_14 : decode cX4_needParagraph 14 = .ok (.getfield 73, 3) := by decide +kernel
theorem dX4_needParagraph_17 : decode cX4_needParagraph 17 = .ok (.iload_n 1, 1) := by decide +kernel
theorem dX4_needParagraph_18 : decode cX4_needParagraph 18 = .ok (.iaload, 1) := by decide +kernel
theorem dX4_needParagraph_19 : decode cX4_needParagraph 19 = .ok (.if_icmp .lt 14, 3) := by decide +kernel
theorem dX4_needParagraph_22 : decode cX4_needParagraph 22 = .ok (.new 372, 3) := by decide +kernel
theorem dX4_needParagraph_25 : decode cX4_needParagraph 25 = .ok (.dup, 1) := by decide +kernel
theorem dX4_needParagraph_26 : decode cX4_needParagraph 26 = .ok (.ldc_w 377, 3) := by decide +kernel
theorem dX4_needParagraph_29 : decode cX4_needParagraph 29 = .ok (.invokespecial 376, 3) := by decide +kernel
theorem dX4_needParagraph_32 : decode cX4_needParagraph 32 = .ok (.athrow, 1) := by decide +kernel
theorem dX4_needParagraph_33 : decode cX4_needParagraph 33 = .ok (.return_, 1) := by decide +kernel
theorem dX4_needTopic_0 : decode cX4_needTopic 0 = .ok (.iload_n 0, 1) := by decide +kernel
theorem dX4_needTopic_1 : decode cX4_needTopic 1 = .ok (.invokestatic 67, 3) := by decide +kernel
theorem dX4_needTopic_4 : decode cX4_needTopic 4 = .ok (.ifCond .ne 14, 3) := by decide +kernel
theorem dX4_needTopic_7 : decode cX4_needTopic 7 = .ok (.new 372, 3) := by decide +kernel
theorem dX4_needTopic_10 : decode cX4_needTopic 10 = .ok (.dup, 1) := by decide +kernel
theorem dX4_needTopic_11 : decode cX4_needTopic 11 = .ok (.ldc_w 379, 3) := by decide +kernel
theorem dX4_needTopic_14 : decode cX4_needTopic 14 = .ok (.invokespecial 376, 3) := by decide +kernel
theorem dX4_needTopic_17 : decode cX4_needTopic 17 = .ok (.athrow, 1) := by decide +kernel
theorem dX4_needTopic_18 : decode cX4_needTopic 18 = .ok (.return_, 1) := by decide +kernel
theorem dX4_needInstalment_0 : decode cX4_needInstalment 0 = .ok (.iload_n 1, 1) := by decide +kernel
theorem dX4_needInstalment_1 : decode cX4_needInstalment 1 = .ok (.ifCond .lt 14, 3) := by decide +kernel
theorem dX4_needInstalment_4 : decode cX4_needInstalment 4 = .ok (.iload_n 1, 1) := by decide +kernel
theorem dX4_needInstalment_5 : decode cX4_needInstalment 5 = .ok (.aload_n 0, 1) := by decide +kernel
theorem dX4_needInstalment_6 : decode cX4_needInstalment 6 = .ok (.getfield 31, 3) := by decide +kernel
theorem dX4_needInstalment_9 : decode cX4_needInstalment 9 = .ok (.getfield 56, 3) := by decide +kernel
theorem dX4_needInstalment_12 : decode cX4_needInstalment 12 = .ok (.if_icmp .lt 14, 3) := by decide +kernel
theorem dX4_needInstalment_15 : decode cX4_needInstalment 15 = .ok (.new 372, 3) := by decide +kernel
theorem dX4_needInstalment_18 : decode cX4_needInstalment 18 = .ok (.dup, 1) := by decide +kernel
theorem dX4_needInstalment_19 : decode cX4_needInstalment 19 = .ok (.ldc_w 381, 3) := by decide +kernel
theorem dX4_needInstalment_22 : decode cX4_needInstalment 22 = .ok (.invokespecial 376, 3) := by decide +kernel
theorem dX4_needInstalment_25 : decode cX4_needInstalment 25 = .ok (.athrow, 1) := by decide +kernel
theorem dX4_needInstalment_26 : decode cX4_needInstalment 26 = .ok (.return_, 1) := by decide +kernel
theorem dX4_needReader_0 : decode cX4_needReader 0 = .ok (.iload_n 1, 1) := by decide +kernel
theorem dX4_needReader_1 : decode cX4_needReader 1 = .ok (.ifCond .lt 14, 3) := by decide +kernel
theorem dX4_needReader_4 : decode cX4_needReader 4 = .ok (.iload_n 1, 1) := by decide +kernel
theorem dX4_needReader_5 : decode cX4_needReader 5 = .ok (.aload_n 0, 1) := by decide +kernel
theorem dX4_needReader_6 : decode cX4_needReader 6 = .ok (.getfield 12, 3) := by decide +kernel
theorem dX4_needReader_9 : decode cX4_needReader 9 = .ok (.getfield 100, 3) := by decide +kernel
theorem dX4_needReader_12 : decode cX4_needReader 12 = .ok (.if_icmp .lt 14, 3) := by decide +kernel
theorem dX4_needReader_15 : decode cX4_needReader 15 = .ok (.new 372, 3) := by decide +kernel
theorem dX4_needReader_18 : decode cX4_needReader 18 = .ok (.dup, 1) := by decide +kernel
theorem dX4_needReader_19 : decode cX4_needReader 19 = .ok (.ldc_w 383, 3) := by decide +kernel
theorem dX4_needReader_22 : decode cX4_needReader 22 = .ok (.invokespecial 376, 3) := by decide +kernel
theorem dX4_needReader_25 : decode cX4_needReader 25 = .ok (.athrow, 1) := by decide +kernel
theorem dX4_needReader_26 : decode cX4_needReader 26 = .ok (.return_, 1) := by decide +kernel
theorem dX4_needMirror_0 : decode cX4_needMirror 0 = .ok (.iload_n 1, 1) := by decide +kernel
theorem dX4_needMirror_1 : decode cX4_needMirror 1 = .ok (.ifCond .lt 14, 3) := by decide +kernel
theorem dX4_needMirror_4 : decode cX4_needMirror 4 = .ok (.iload_n 1, 1) := by decide +kernel
theorem dX4_needMirror_5 : decode cX4_needMirror 5 = .ok (.aload_n 0, 1) := by decide +kernel
theorem dX4_needMirror_6 : decode cX4_needMirror 6 = .ok (.getfield 38, 3) := by decide +kernel
theorem dX4_needMirror_9 : decode cX4_needMirror 9 = .ok (.getfield 116, 3) := by decide +kernel
theorem dX4_needMirror_12 : decode cX4_needMirror 12 = .ok (.if_icmp .lt 14, 3) := by decide +kernel
theorem dX4_needMirror_15 : decode cX4_needMirror 15 = .ok (.new 372, 3) := by decide +kernel
theorem dX4_needMirror_18 : decode cX4_needMirror 18 = .ok (.dup, 1) := by decide +kernel
theorem dX4_needMirror_19 : decode cX4_needMirror 19 = .ok (.ldc_w 385, 3) := by decide +kernel
theorem dX4_needMirror_22 : decode cX4_needMirror 22 = .ok (.invokespecial 376, 3) := by decide +kernel
theorem dX4_needMirror_25 : decode cX4_needMirror 25 = .ok (.athrow, 1) := by decide +kernel
theorem dX4_needMirror_26 : decode cX4_needMirror 26 = .ok (.return_, 1) := by decide +kernel
theorem dX5_init_0 : decode cX5_init 0 = .ok (.aload_n 0, 1) := by decide +kernel
theorem dX5_init_1 : decode cX5_init 1 = .ok (.invokespecial 1, 3) := by decide +kernel
theorem dX5_init_4 : decode cX5_init 4 = .ok (.aload_n 0, 1) := by decide +kernel
theorem dX5_init_5 : decode cX5_init 5 = .ok (.bipush 20, 2) := by decide +kernel
theorem dX5_init_7 : decode cX5_init 7 = .ok (.putfield 7, 3) := by decide +kernel
theorem dX5_init_10 : decode cX5_init 10 = .ok (.aload_n 0, 1) := by decide +kernel
theorem dX5_init_11 : decode cX5_init 11 = .ok (.bipush 6, 2) := by decide +kernel
theorem dX5_init_13 : decode cX5_init 13 = .ok (.newarray .boolean, 2) := by decide +kernel
theorem dX5_init_15 : decode cX5_init 15 = .ok (.putfield 13, 3) := by decide +kernel
theorem dX5_init_18 : decode cX5_init 18 = .ok (.aload_n 0, 1) := by decide +kernel
theorem dX5_init_19 : decode cX5_init 19 = .ok (.bipush 8, 2) := by decide +kernel
theorem dX5_init_21 : decode cX5_init 21 = .ok (.newarray .boolean, 2) := by decide +kernel
theorem dX5_init_23 : decode cX5_init 23 = .ok (.putfield 17, 3) := by decide +kernel
theorem dX5_init_26 : decode cX5_init 26 = .ok (.aload_n 0, 1) := by decide +kernel
theorem dX5_init_27 : decode cX5_init 27 = .ok (.bipush 6, 2) := by decide +kernel
theorem dX5_init_29 : decode cX5_init 29 = .ok (.iconst 2, 1) := by decide +kernel
theorem dX5_init_30 : decode cX5_init 30 = .ok (.multianewarray 20 2, 4) := by decide +kernel
theorem dX5_init_34 : decode cX5_init 34 = .ok (.putfield 22, 3) := by decide +kernel
theorem dX5_init_37 : decode cX5_init 37 = .ok (.aload_n 0, 1) := by decide +kernel
theorem dX5_init_38 : decode cX5_init 38 = .ok (.iconst 0, 1) := by decide +kernel
theorem dX5_init_39 : decode cX5_init 39 = .ok (.anewarray 25, 3) := by decide +kernel
theorem dX5_init_42 : decode cX5_init 42 = .ok (.putfield 27, 3) := by decide +kernel
theorem dX5_init_45 : decode cX5_init 45 = .ok (.aload_n 0, 1) := by decide +kernel
theorem dX5_init_46 : decode cX5_init 46 = .ok (.iconst 0, 1) := by decide +kernel
theorem dX5_init_47 : decode cX5_init 47 = .ok (.anewarray 25, 3) := by decide +kernel
theorem dX5_init_50 : decode cX5_init 50 = .ok (.putfield 30, 3) := by decide +kernel
theorem dX5_init_53 : decode cX5_init 53 = .ok (.aload_n 0, 1) := by decide +kernel
theorem dX5_init_54 : decode cX5_init 54 = .ok (.iconst 0, 1) := by decide +kernel
theorem dX5_init_55 : decode cX5_init 55 = .ok (.anewarray 25, 3) := by decide +kernel
theorem dX5_init_58 : decode cX5_init 58 = .ok (.putfield 33, 3) := by decide +kernel
theorem dX5_init_61 : decode cX5_init 61 = .ok (.return_, 1) := by decide +kernel
theorem dX5_with_0 : decode cX5_with 0 = .ok (.aload_n 0, 1) := by decide +kernel
theorem dX5_with_1 : decode cX5_with 1 = .ok (.arraylength, 1) := by decide +kernel
theorem dX5_with_2 : decode cX5_with 2 = .ok (.iconst 1, 1) := by decide +kernel
theorem dX5_with_3 : decode cX5_with 3 = .ok (.iadd, 1) := by decide +kernel
theorem dX5_with_4 : decode cX5_with 4 = .ok (.anewarray 25, 3) := by decide +kernel
theorem dX5_with_7 : decode cX5_with 7 = .ok (.astore_n 2, 1) := by decide +kernel
theorem dX5_with_8 : decode cX5_with 8 = .ok (.iconst 0, 1) := by decide +kernel
theorem dX5_with_9 : decode cX5_with 9 = .ok (.istore_n 3, 1) := by decide +kernel
theorem dX5_with_10 : decode cX5_with 10 = .ok (.iload_n 3, 1) := by decide +kernel
theorem dX5_with_11 : decode cX5_with 11 = .ok (.aload_n 0, 1) := by decide +kernel
theorem dX5_with_12 : decode cX5_with 12 = .ok (.arraylength, 1) := by decide +kernel
theorem dX5_with_13 : decode cX5_with 13 = .ok (.if_icmp .ge 15, 3) := by decide +kernel
theorem dX5_with_16 : decode cX5_with 16 = .ok (.aload_n 2, 1) := by decide +kernel
theorem dX5_with_17 : decode cX5_with 17 = .ok (.iload_n 3, 1) := by decide +kernel
theorem dX5_with_18 : decode cX5_with 18 = .ok (.aload_n 0, 1) := by decide +kernel
theorem dX5_with_19 : decode cX5_with 19 = .ok (.iload_n 3, 1) := by decide +kernel
theorem dX5_with_20 : decode cX5_with 20 = .ok (.aaload, 1) := by decide +kernel
theorem dX5_with_21 : decode cX5_with 21 = .ok (.aastore, 1) := by decide +kernel
theorem dX5_with_22 : decode cX5_with 22 = .ok (.iinc 3 1, 3) := by decide +kernel
theorem dX5_with_25 : decode cX5_with 25 = .ok (.goto (-15), 3) := by decide +kernel
theorem dX5_with_28 : decode cX5_with 28 = .ok (.aload_n 2, 1) := by decide +kernel
theorem dX5_with_29 : decode cX5_with 29 = .ok (.aload_n 0, 1) := by decide +kernel
theorem dX5_with_30 : decode cX5_with 30 = .ok (.arraylength, 1) := by decide +kernel
theorem dX5_with_31 : decode cX5_with 31 = .ok (.aload_n 1, 1) := by decide +kernel
theorem dX5_with_32 : decode cX5_with 32 = .ok (.aastore, 1) := by decide +kernel
theorem dX5_with_33 : decode cX5_with 33 = .ok (.aload_n 2, 1) := by decide +kernel
theorem dX5_with_34 : decode cX5_with 34 = .ok (.areturn, 1) := by decide +kernel
theorem dX5_begin_0 : decode cX5_begin 0 = .ok (.aload_n 0, 1) := by decide +kernel
theorem dX5_begin_1 : decode cX5_begin 1 = .ok (.iload_n 1, 1) := by decide +kernel
theorem dX5_begin_2 : decode cX5_begin 2 = .ok (.newarray .boolean, 2) := by decide +kernel
theorem dX5_begin_4 : decode cX5_begin 4 = .ok (.putfield 13, 3) := by decide +kernel
theorem dX5_begin_7 : decode cX5_begin 7 = .ok (.aload_n 0, 1) := by decide +kernel
theorem dX5_begin_8 : decode cX5_begin 8 = .ok (.iload_n 1, 1) := by decide +kernel
theorem dX5_begin_9 : decode cX5_begin 9 = .ok (.iconst 2, 1) := by decide +kernel
theorem dX5_begin_10 : decode cX5_begin 10 = .ok (.multianewarray 20 2, 4) := by decide +kernel
theorem dX5_begin_14 : decode cX5_begin 14 = .ok (.putfield 22, 3) := by decide +kernel
theorem dX5_begin_17 : decode cX5_begin 17 = .ok (.aload_n 0, 1) := by decide +kernel
theorem dX5_begin_18 : decode cX5_begin 18 = .ok (.iconst 0, 1) := by decide +kernel
theorem dX5_begin_19 : decode cX5_begin 19 = .ok (.anewarray 25, 3) := by decide +kernel
theorem dX5_begin_22 : decode cX5_begin 22 = .ok (.putfield 33, 3) := by decide +kernel
theorem dX5_begin_25 : decode cX5_begin 25 = .ok (.aload_n 0, 1) := by decide +kernel
theorem dX5_begin_26 : decode cX5_begin 26 = .ok (.iconst 0, 1) := by decide +kernel
theorem dX5_begin_27 : decode cX5_begin 27 = .ok (.putfield 36, 3) := by decide +kernel
theorem dX5_begin_30 : decode cX5_begin 30 = .ok (.aload_n 0, 1) := by decide +kernel
theorem dX5_begin_31 : decode cX5_begin 31 = .ok (.iconst 0, 1) := by decide +kernel
theorem dX5_begin_32 : decode cX5_begin 32 = .ok (.putfield 39, 3) := by decide +kernel
theorem dX5_begin_35 : decode cX5_begin 35 = .ok (.aload_n 0, 1) := by decide +kernel
theorem dX5_begin_36 : decode cX5_begin 36 = .ok (.iconst 0, 1) := by decide +kernel
theorem dX5_begin_37 : decode cX5_begin 37 = .ok (.putfield 42, 3) := by decide +kernel
theorem dX5_begin_40 : decode cX5_begin 40 = .ok (.aload_n 0, 1) := by decide +kernel
theorem dX5_begin_41 : decode cX5_begin 41 = .ok (.iconst 0, 1) := by decide +kernel
theorem dX5_begin_42 : decode cX5_begin 42 = .ok (.putfield 45, 3) := by decide +kernel
theorem dX5_begin_45 : decode cX5_begin 45 = .ok (.aload_n 0, 1) := by decide +kernel
theorem dX5_begin_46 : decode cX5_begin 46 = .ok (.iconst 0, 1) := by decide +kernel
theorem dX5_begin_47 : decode cX5_begin 47 = .ok (.putfield 48, 3) := by decide +kernel
theorem dX5_begin_50 : decode cX5_begin 50 = .ok (.return_, 1) := by decide +kernel
theorem dX5_add_0 : decode cX5_add 0 = .ok (.aload_n 0, 1) := by decide +kernel
theorem dX5_add_1 : decode cX5_add 1 = .ok (.getfield 22, 3) := by decide +kernel
theorem dX5_add_4 : decode cX5_add 4 = .ok (.iload_n 1, 1) := by decide +kernel
theorem dX5_add_5 : decode cX5_add 5 = .ok (.aaload, 1) := by decide +kernel
theorem dX5_add_6 : decode cX5_add 6 = .ok (.astore 4, 2) := by decide +kernel
theorem dX5_add_8 : decode cX5_add 8 = .ok (.aload 4, 2) := by decide +kernel
theorem dX5_add_10 : decode cX5_add 10 = .ok (.arraylength, 1) := by decide +kernel
theorem dX5_add_11 : decode cX5_add 11 = .ok (.iconst 2, 1) := by decide +kernel
theorem dX5_add_12 : decode cX5_add 12 = .ok (.iadd, 1) := by decide +kernel
theorem dX5_add_13 : decode cX5_add 13 = .ok (.newarray .int, 2) := by decide +kernel
theorem dX5_add_15 : decode cX5_add 15 = .ok (.astore 5, 2) := by decide +kernel
theorem dX5_add_17 : decode cX5_add 17 = .ok (.iconst 0, 1) := by decide +kernel
theorem dX5_add_18 : decode cX5_add 18 = .ok (.istore 6, 2) := by decide +kernel
theorem dX5_add_20 : decode cX5_add 20 = .ok (.iload 6, 2) := by decide +kernel
theorem dX5_add_22 : decode cX5_add 22 = .ok (.aload 4, 2) := by decide +kernel
theorem dX5_add_24 : decode cX5_add 24 = .ok (.arraylength, 1) := by decide +kernel
theorem dX5_add_25 : decode cX5_add 25 = .ok (.if_icmp .ge 19, 3) := by decide +kernel
theorem dX5_add_28 : decode cX5_add 28 = .ok (.aload 5, 2) := by decide +kernel
theorem dX5_add_30 : decode cX5_add 30 = .ok (.iload 6, 2) := by decide +kernel
theorem dX5_add_32 : decode cX5_add 32 = .ok (.aload 4, 2) := by decide +kernel
theorem dX5_add_34 : decode cX5_add 34 = .ok (.iload 6, 2) := by decide +kernel
theorem dX5_add_36 : decode cX5_add 36 = .ok (.iaload, 1) := by decide +kernel
theorem dX5_add_37 : decode cX5_add 37 = .ok (.iastore, 1) := by decide +kernel
theorem dX5_add_38 : decode cX5_add 38 = .ok (.iinc 6 1, 3) := by decide +kernel
theorem dX5_add_41 : decode cX5_add 41 = .ok (.goto (-21), 3) := by decide +kernel
theorem dX5_add_44 : decode cX5_add 44 = .ok (.aload 5, 2) := by decide +kernel
theorem dX5_add_46 : decode cX5_add 46 = .ok (.aload 4, 2) := by decide +kernel
theorem dX5_add_48 : decode cX5_add 48 = .ok (.arraylength, 1) := by decide +kernel
theorem dX5_add_49 : decode cX5_add 49 = .ok (.iload_n 2, 1) := by decide +kernel
theorem dX5_add_50 : decode cX5_add 50 = .ok (.iastore, 1) := by decide +kernel
theorem dX5_add_51 : decode cX5_add 51 = .ok (.aload 5, 2) := by decide +kernel
theorem dX5_add_53 : decode cX5_add 53 = .ok (.aload 4, 2) := by decide +kernel
theorem dX5_add_55 : decode cX5_add 55 = .ok (.arraylength, 1) := by decide +kernel
theorem dX5_add_56 : decode cX5_add 56 = .ok (.iconst 1, 1) := by decide +kernel
theorem dX5_add_57 : decode cX5_add 57 = .ok (.iadd, 1) := by decide +kernel
theorem dX5_add_58 : decode cX5_add 58 = .ok (.iload_n 3, 1) := by decide +kernel
theorem dX5_add_59 : decode cX5_add 59 = .ok (.iastore, 1) := by decide +kernel
theorem dX5_add_60 : decode cX5_add 60 = .ok (.aload_n 0, 1) := by decide +kernel
theorem dX5_add_61 : decode cX5_add 61 = .ok (.getfield 22, 3) := by decide +kernel
theorem dX5_add_64 : decode cX5_add 64 = .ok (.iload_n 1, 1) := by decide +kernel
theorem dX5_add_65 : decode cX5_add 65 = .ok (.aload 5, 2) := by decide +kernel
theorem dX5_add_67 : decode cX5_add 67 = .ok (.aastore, 1) := by decide +kernel
theorem dX5_add_68 : decode cX5_add 68 = .ok (.aload 4, 2) := by decide +kernel
theorem dX5_add_70 : decode cX5_add 70 = .ok (.arraylength, 1) := by decide +kernel
theorem dX5_add_71 : decode cX5_add 71 = .ok (.iconst 2, 1) := by decide +kernel
theorem dX5_add_72 : decode cX5_add 72 = .ok (.isub, 1) := by decide +kernel
theorem dX5_add_73 : decode cX5_add 73 = .ok (.iconst 2, 1) := by decide +kernel
theorem dX5_add_74 : decode cX5_add 74 = .ok (.idiv, 1) := by decide +kernel
theorem dX5_add_75 : decode cX5_add 75 = .ok (.ireturn, 1) := by decide +kernel
theorem dX5_calls_0 : decode cX5_calls 0 = .ok (.iconst 0, 1) := by decide +kernel
theorem dX5_calls_1 : decode cX5_calls 1 = .ok (.istore_n 1, 1) := by decide +kernel
theorem dX5_calls_2 : decode cX5_calls 2 = .ok (.aload_n 0, 1) := by decide +kernel
theorem dX5_calls_3 : decode cX5_calls 3 = .ok (.getfield 13, 3) := by decide +kernel
theorem dX5_calls_6 : decode cX5_calls 6 = .ok (.astore_n 2, 1) := by decide +kernel
theorem dX5_calls_7 : decode cX5_calls 7 = .ok (.aload_n 2, 1) := by decide +kernel
theorem dX5_calls_8 : decode cX5_calls 8 = .ok (.arraylength, 1) := by decide +kernel
theorem dX5_calls_9 : decode cX5_calls 9 = .ok (.istore_n 3, 1) := by decide +kernel
theorem dX5_calls_10 : decode cX5_calls 10 = .ok (.iconst 0, 1) := by decide +kernel
theorem dX5_calls_11 : decode cX5_calls 11 = .ok (.istore 4, 2) := by decide +kernel
theorem dX5_calls_13 : decode cX5_calls 13 = .ok (.iload 4, 2) := by decide +kernel
theorem dX5_calls_15 : decode cX5_calls 15 = .ok (.iload_n 3, 1) := by decide +kernel
theorem dX5_calls_16 : decode cX5_calls 16 = .ok (.if_icmp .ge 23, 3) := by decide +kernel
theorem dX5_calls_19 : decode cX5_calls 19 = .ok (.aload_n 2, 1) := by decide +kernel
theorem dX5_calls_20 : decode cX5_calls 20 = .ok (.iload 4, 2) := by decide +kernel
theorem dX5_calls_22 : decode cX5_calls 22 = .ok (.baload, 1) := by decide +kernel
theorem dX5_calls_23 : decode cX5_calls 23 = .ok (.istore 5, 2) := by decide +kernel
theorem dX5_calls_25 : decode cX5_calls 25 = .ok (.iload 5, 2) := by decide +kernel
theorem dX5_calls_27 : decode cX5_calls 27 = .ok (.ifCond .eq 6, 3) := by decide +kernel
theorem dX5_calls_30 : decode cX5_calls 30 = .ok (.iinc 1 1, 3) := by decide +kernel
theorem dX5_calls_33 : decode cX5_calls 33 = .ok (.iinc 4 1, 3) := by decide +kernel
theorem dX5_calls_36 : decode cX5_calls 36 = .ok (.goto (-23), 3) := by decide +kernel
theorem dX5_calls_39 : decode cX5_calls 39 = .ok (.iload_n 1, 1) := by decide +kernel
theorem dX5_calls_40 : decode cX5_calls 40 = .ok (.ireturn, 1) := by decide +kernel
theorem dX5_stop_0 : decode cX5_stop 0 = .ok (.aload_n 0, 1) := by decide +kernel
theorem dX5_stop_1 : decode cX5_stop 1 = .ok (.getfield 13, 3) := by decide +kernel
theorem dX5_stop_4 : decode cX5_stop 4 = .ok (.aload_n 0, 1) := by decide +kernel
theorem dX5_stop_5 : decode cX5_stop 5 = .ok (.getfield 36, 3) := by decide +kernel
theorem dX5_stop_8 : decode cX5_stop 8 = .ok (.iconst 0, 1) := by decide +kernel
theorem dX5_stop_9 : decode cX5_stop 9 = .ok (.bastore, 1) := by decide +kernel
theorem dX5_stop_10 : decode cX5_stop 10 = .ok (.aload_n 0, 1) := by decide +kernel
theorem dX5_stop_11 : decode cX5_stop 11 = .ok (.aload_n 0, 1) := by decide +kernel
theorem dX5_stop_12 : decode cX5_stop 12 = .ok (.getfield 36, 3) := by decide +kernel
theorem dX5_stop_15 : decode cX5_stop 15 = .ok (.putfield 51, 3) := by decide +kernel
theorem dX5_stop_18 : decode cX5_stop 18 = .ok (.aload_n 0, 1) := by decide +kernel
theorem dX5_stop_19 : decode cX5_stop 19 = .ok (.getfield 22, 3) := by decide +kernel
theorem dX5_stop_22 : decode cX5_stop 22 = .ok (.aload_n 0, 1) := by decide +kernel
theorem dX5_stop_23 : decode cX5_stop 23 = .ok (.getfield 36, 3) := by decide +kernel
theorem dX5_stop_26 : decode cX5_stop 26 = .ok (.aaload, 1) := by decide +kernel
theorem dX5_stop_27 : decode cX5_stop 27 = .ok (.astore_n 1, 1) := by decide +kernel
theorem dX5_stop_28 : decode cX5_stop 28 = .ok (.aload_n 1, 1) := by decide +kernel
theorem dX5_stop_29 : decode cX5_stop 29 = .ok (.iconst 0, 1) := by decide +kernel
theorem dX5_stop_30 : decode cX5_stop 30 = .ok (.iaload, 1) := by decide +kernel
theorem dX5_stop_31 : decode cX5_stop 31 = .ok (.istore_n 2, 1) := by decide +kernel
theorem dX5_stop_32 : decode cX5_stop 32 = .ok (.iconst 2, 1) := by decide +kernel
theorem dX5_stop_33 : decode cX5_stop 33 = .ok (.iconst 2, 1) := by decide +kernel
theorem dX5_stop_34 : decode cX5_stop 34 = .ok (.iload_n 2, 1) := by decide +kernel
theorem dX5_stop_35 : decode cX5_stop 35 = .ok (.imul, 1) := by decide +kernel
theorem dX5_stop_36 : decode cX5_stop 36 = .ok (.iadd, 1) := by decide +kernel
theorem dX5_stop_37 : decode cX5_stop 37 = .ok (.aload_n 1, 1) := by decide +kernel
theorem dX5_stop_38 : decode cX5_stop 38 = .ok (.arraylength, 1) := by decide +kernel
theorem dX5_stop_39 : decode cX5_stop 39 = .ok (.if_icmp .ne 4, 3) := by decide +kernel
theorem dX5_stop_42 : decode cX5_stop 42 = .ok (.return_, 1) := by decide +kernel
theorem dX5_stop_43 : decode cX5_stop 43 = .ok (.aload_n 1, 1) := by decide +kernel
theorem dX5_stop_44 : decode cX5_stop 44 = .ok (.iconst 0, 1) := by decide +kernel
theorem dX5_stop_45 : decode cX5_stop 45 = .ok (.dup2, 1) := by decide +kernel
theorem dX5_stop_46 : decode cX5_stop 46 = .ok (.iaload, 1) := by decide +kernel
theorem dX5_stop_47 : decode cX5_stop 47 = .ok (.iconst 1, 1) := by decide +kernel
theorem dX5_stop_48 : decode cX5_stop 48 = .ok (.iadd, 1) := by decide +kernel
theorem dX5_stop_49 : decode cX5_stop 49 = .ok (.iastore, 1) := by decide +kernel
theorem dX5_stop_50 : decode cX5_stop 50 = .ok (.aload_n 1, 1) := by decide +kernel
theorem dX5_stop_51 : decode cX5_stop 51 = .ok (.iconst 2, 1) := by decide +kernel
theorem dX5_stop_52 : decode cX5_stop 52 = .ok (.iconst 2, 1) := by decide +kernel
theorem dX5_stop_53 : decode cX5_stop 53 = .ok (.iload_n 2, 1) := by decide +kernel
theorem dX5_stop_54 : decode cX5_stop 54 = .ok (.imul, 1) := by decide +kernel
theorem dX5_stop_55 : decode cX5_stop 55 = .ok (.iadd, 1) := by decide +kernel
theorem dX5_stop_56 : decode cX5_stop 56 = .ok (.iaload, 1) := by decide +kernel
theorem dX5_stop_57 : decode cX5_stop 57 = .ok (.istore_n 3, 1) := by decide +kernel
theorem dX5_stop_58 : decode cX5_stop 58 = .ok (.aload_n 1, 1) := by decide +kernel
theorem dX5_stop_59 : decode cX5_stop 59 = .ok (.iconst 3, 1) := by decide +kernel
theorem dX5_stop_60 : decode cX5_stop 60 = .ok (.iconst 2, 1) := by decide +kernel
theorem dX5_stop_61 : decode cX5_stop 61 = .ok (.iload_n 2, 1) := by decide +kernel
theorem dX5_stop_62 : decode cX5_stop 62 = .ok (.imul, 1) := by decide +kernel
theorem dX5_stop_63 : decode cX5_stop 63 = .ok (.iadd, 1) := by decide +kernel
theorem dX5_stop_64 : decode cX5_stop 64 = .ok (.iaload, 1) := by decide +kernel
theorem dX5_stop_65 : decode cX5_stop 65 = .ok (.istore 4, 2) := by decide +kernel
theorem dX5_stop_67 : decode cX5_stop 67 = .ok (.aload_n 0, 1) := by decide +kernel
theorem dX5_stop_68 : decode cX5_stop 68 = .ok (.getfield 17, 3) := by decide +kernel
theorem dX5_stop_71 : decode cX5_stop 71 = .ok (.iload_n 3, 1) := by decide +kernel
theorem dX5_stop_72 : decode cX5_stop 72 = .ok (.baload, 1) := by decide +kernel
theorem dX5_stop_73 : decode cX5_stop 73 = .ok (.ifCond .eq 11, 3) := by decide +kernel
theorem dX5_stop_76 : decode cX5_stop 76 = .ok (.aload_n 1, 1) := by decide +kernel
theorem dX5_stop_77 : decode cX5_stop 77 = .ok (.iconst 1, 1) := by decide +kernel
theorem dX5_stop_78 : decode cX5_stop 78 = .ok (.dup2, 1) := by decide +kernel
theorem dX5_stop_79 : decode cX5_stop 79 = .ok (.iaload, 1) := by decide +kernel
theorem dX5_stop_80 : decode cX5_stop 80 = .ok (.iconst 1, 1) := by decide +kernel
theorem dX5_stop_81 : decode cX5_stop 81 = .ok (.iadd, 1) := by decide +kernel
theorem dX5_stop_82 : decode cX5_stop 82 = .ok (.iastore, 1) := by decide +kernel
theorem dX5_stop_83 : decode cX5_stop 83 = .ok (.return_, 1) := by decide +kernel
theorem dX5_stop_84 : decode cX5_stop 84 = .ok (.iload 4, 2) := by decide +kernel
theorem dX5_stop_86 : decode cX5_stop 86 = .ok (.aload_n 0, 1) := by decide +kernel
theorem dX5_stop_87 : decode cX5_stop 87 = .ok (.getfield 48, 3) := by decide +kernel
theorem dX5_stop_90 : decode cX5_stop 90 = .ok (.iadd, 1) := by decide +kernel
theorem dX5_stop_91 : decode cX5_stop 91 = .ok (.istore 5, 2) := by decide +kernel
theorem dX5_stop_93 : decode cX5_stop 93 = .ok (.aload_n 0, 1) := by decide +kernel
theorem dX5_stop_94 : decode cX5_stop 94 = .ok (.iconst 0, 1) := by decide +kernel
theorem dX5_stop_95 : decode cX5_stop 95 = .ok (.putfield 48, 3) := by decide +kernel
theorem dX5_stop_98 : decode cX5_stop 98 = .ok (.aload_n 0, 1) := by decide +kernel
theorem dX5_stop_99 : decode cX5_stop 99 = .ok (.aload_n 0, 1) := by decide +kernel
theorem dX5_stop_100 : decode cX5_stop 100 = .ok (.getfield 33, 3) := by decide +kernel
theorem dX5_stop_103 : decode cX5_stop 103 = .ok (.bipush 6, 2) := by decide +kernel
theorem dX5_stop_105 : decode cX5_stop 105 = .ok (.newarray .int, 2) := by decide +kernel
theorem dX5_stop_107 : decode cX5_stop 107 = .ok (.dup, 1) := by decide +kernel
theorem dX5_stop_108 : decode cX5_stop 108 = .ok (.iconst 0, 1) := by decide +kernel
theorem dX5_stop_109 : decode cX5_stop 109 = .ok (.aload_n 0, 1) := by decide +kernel
theorem dX5_stop_110 : decode cX5_stop 110 = .ok (.getfield 36, 3) := by decide +kernel
theorem dX5_stop_113 : decode cX5_stop 113 = .ok (.iastore, 1) := by decide +kernel
theorem dX5_stop_114 : decode cX5_stop 114 = .ok (.dup, 1) := by decide +kernel
theorem dX5_stop_115 : decode cX5_stop 115 = .ok (.iconst 1, 1) := by decide +kernel
theorem dX5_stop_116 : decode cX5_stop 116 = .ok (.iload_n 2, 1) := by decide +kernel
theorem dX5_stop_117 : decode cX5_stop 117 = .ok (.iastore, 1) := by decide +kernel
theorem dX5_stop_118 : decode cX5_stop 118 = .ok (.dup, 1) := by decide +kernel
theorem dX5_stop_119 : decode cX5_stop 119 = .ok (.iconst 2, 1) := by decide +kernel
theorem dX5_stop_120 : decode cX5_stop 120 = .ok (.iload_n 3, 1) := by decide +kernel
theorem dX5_stop_121 : decode cX5_stop 121 = .ok (.iastore, 1) := by decide +kernel
theorem dX5_stop_122 : decode cX5_stop 122 = .ok (.dup, 1) := by decide +kernel
theorem dX5_stop_123 : decode cX5_stop 123 = .ok (.iconst 3, 1) := by decide +kernel
theorem dX5_stop_124 : decode cX5_stop 124 = .ok (.iload 4, 2) := by decide +kernel
theorem dX5_stop_126 : decode cX5_stop 126 = .ok (.iastore, 1) := by decide +kernel
theorem dX5_stop_127 : decode cX5_stop 127 = .ok (.dup, 1) := by decide +kernel
theorem dX5_stop_128 : decode cX5_stop 128 = .ok (.iconst 4, 1) := by decide +kernel
theorem dX5_stop_129 : decode cX5_stop 129 = .ok (.iload 5, 2) := by decide +kernel
theorem dX5_stop_131 : decode cX5_stop 131 = .ok (.iastore, 1) := by decide +kernel
theorem dX5_stop_132 : decode cX5_stop 132 = .ok (.dup, 1) := by decide +kernel
theorem dX5_stop_133 : decode cX5_stop 133 = .ok (.iconst 5, 1) := by decide +kernel
theorem dX5_stop_134 : decode cX5_stop 134 = .ok (.aload_n 0, 1) := by decide +kernel
theorem dX5_stop_135 : decode cX5_stop 135 = .ok (.getfield 54, 3) := by decide +kernel
theorem dX5_stop_138 : decode cX5_stop 138 = .ok (.iastore, 1) := by decide +kernel
theorem dX5_stop_139 : decode cX5_stop 139 = .ok (.invokestatic 57, 3) := by decide +kernel
theorem dX5_stop_142 : decode cX5_stop 142 = .ok (.putfield 33, 3) := by decide +kernel
theorem dX5_stop_145 : decode cX5_stop 145 = .ok (.aload_n 0, 1) := by decide +kernel
theorem dX5_stop_146 : decode cX5_stop 146 = .ok (.getfield 27, 3) := by decide +kernel
theorem dX5_stop_149 : decode cX5_stop 149 = .ok (.astore 6, 2) := by decide +kernel
theorem dX5_stop_151 : decode cX5_stop 151 = .ok (.aload 6, 2) := by decide +kernel
theorem dX5_stop_153 : decode cX5_stop 153 = .ok (.arraylength, 1) := by decide +kernel
theorem dX5_stop_154 : decode cX5_stop 154 = .ok (.istore 7, 2) := by decide +kernel
theorem dX5_stop_156 : decode cX5_stop 156 = .ok (.iconst 0, 1) := by decide +kernel
theorem dX5_stop_157 : decode cX5_stop 157 = .ok (.istore 8, 2) := by decide +kernel
theorem dX5_stop_159 : decode cX5_stop 159 = .ok (.iload 8, 2) := by decide +kernel
theorem dX5_stop_161 : decode cX5_stop 161 = .ok (.iload 7, 2) := by decide +kernel
theorem dX5_stop_163 : decode cX5_stop 163 = .ok (.if_icmp .ge 65, 3) := by decide +kernel
theorem dX5_stop_166 : decode cX5_stop 166 = .ok (.aload 6, 2) := by decide +kernel
theorem dX5_stop_168 : decode cX5_stop 168 = .ok (.iload 8, 2) := by decide +kernel
theorem dX5_stop_170 : decode cX5_stop 170 = .ok (.aaload, 1) := by decide +kernel
theorem dX5_stop_171 : decode cX5_stop 171 = .ok (.astore 9, 2) := by decide +kernel
theorem dX5_stop_173 : decode cX5_stop 173 = .ok (.aload 9, 2) := by decide +kernel
theorem dX5_stop_175 : decode cX5_stop 175 = .ok (.iconst 2, 1) := by decide +kernel
theorem dX5_stop_176 : decode cX5_stop 176 = .ok (.iaload, 1) := by decide +kernel
theorem dX5_stop_177 : decode cX5_stop 177 = .ok (.ifCond .ne 6, 3) := by decide +kernel
theorem dX5_stop_180 : decode cX5_stop 180 = .ok (.goto 42, 3) := by decide +kernel
theorem dX5_stop_183 : decode cX5_stop 183 = .ok (.aload 9, 2) := by decide +kernel
theorem dX5_stop_185 : decode cX5_stop 185 = .ok (.iconst 1, 1) := by decide +kernel
theorem dX5_stop_186 : decode cX5_stop 186 = .ok (.dup2, 1) := by decide +kernel
theorem dX5_stop_187 : decode cX5_stop 187 = .ok (.iaload, 1) := by decide +kernel
theorem dX5_stop_188 : decode cX5_stop 188 = .ok (.aload 9, 2) := by decide +kernel
theorem dX5_stop_190 : decode cX5_stop 190 = .ok (.iconst 0, 1) := by decide +kernel
theorem dX5_stop_191 : decode cX5_stop 191 = .ok (.iaload, 1) := by decide +kernel
theorem dX5_stop_192 : decode cX5_stop 192 = .ok (.iload_n 3, 1) := by decide +kernel
theorem dX5_stop_193 : decode cX5_stop 193 = .ok (.if_icmp .ne 8, 3) := by decide +kernel
theorem dX5_stop_196 : decode cX5_stop 196 = .ok (.iload 5, 2) := by decide +kernel
theorem dX5_stop_198 : decode cX5_stop 198 = .ok (.goto 7, 3) := by decide +kernel
theorem dX5_stop_201 : decode cX5_stop 201 = .ok (.iload 5, 2) := by decide +kernel
theorem dX5_stop_203 : decode cX5_stop 203 = .ok (.iconst 3, 1) := by decide +kernel
theorem dX5_stop_204 : decode cX5_stop 204 = .ok (.idiv, 1) := by decide +kernel
theorem dX5_stop_205 : decode cX5_stop 205 = .ok (.iadd, 1) := by decide +kernel
theorem dX5_stop_206 : decode cX5_stop 206 = .ok (.iastore, 1) := by decide +kernel
theorem dX5_stop_207 : decode cX5_stop 207 = .ok (.aload 9, 2) := by decide +kernel
theorem dX5_stop_209 : decode cX5_stop 209 = .ok (.iconst 1, 1) := by decide +kernel
theorem dX5_stop_210 : decode cX5_stop 210 = .ok (.iaload, 1) := by decide +kernel
theorem dX5_stop_211 : decode cX5_stop 211 = .ok (.bipush 99, 2) := by decide +kernel
theorem dX5_stop_213 : decode cX5_stop 213 = .ok (.if_icmp .le 9, 3) := by decide +kernel
theorem dX5_stop_216 : decode cX5_stop 216 = .ok (.aload 9, 2) := by decide +kernel
theorem dX5_stop_218 : decode cX5_stop 218 = .ok (.iconst 1, 1) := by decide +kernel
theorem dX5_stop_219 : decode cX5_stop 219 = .ok (.bipush 99, 2) := by decide +kernel
theorem dX5_stop_221 : decode cX5_stop 221 = .ok (.iastore, 1) := by decide +kernel
theorem dX5_stop_222 : decode cX5_stop 222 = .ok (.iinc 8 1, 3) := by decide +kernel
theorem dX5_stop_225 : decode cX5_stop 225 = .ok (.goto (-66), 3) := by decide +kernel
theorem dX5_stop_228 : decode cX5_stop 228 = .ok (.return_, 1) := by decide +kernel
theorem dX5_pass_0 : decode cX5_pass 0 = .ok (.aload_n 0, 1) := by decide +kernel
theorem dX5_pass_1 : decode cX5_pass 1 = .ok (.iconst (-1), 1) := by decide +kernel
theorem dX5_pass_2 : decode cX5_pass 2 = .ok (.putfield 51, 3) := by decide +kernel
theorem dX5_pass_5 : decode cX5_pass 5 = .ok (.aload_n 0, 1) := by decide +kernel
theorem dX5_pass_6 : decode cX5_pass 6 = .ok (.getfield 33, 3) := by decide +kernel
theorem dX5_pass_9 : decode cX5_pass 9 = .ok (.arraylength, 1) := by decide +kernel
theorem dX5_pass_10 : decode cX5_pass 10 = .ok (.istore_n 1, 1) := by decide +kernel
theorem dX5_pass_11 : decode cX5_pass 11 = .ok (.aload_n 0, 1) := by decide +kernel
theorem dX5_pass_12 : decode cX5_pass 12 = .ok (.getfield 42, 3) := by decide +kernel
theorem dX5_pass_15 : decode cX5_pass 15 = .ok (.ifCond .le 49, 3) := by decide +kernel
theorem dX5_pass_18 : decode cX5_pass 18 = .ok (.aload_n 0, 1) := by decide +kernel
theorem dX5_pass_19 : decode cX5_pass 19 = .ok (.dup, 1) := by decide +kernel
theorem dX5_pass_20 : decode cX5_pass 20 = .ok (.getfield 42, 3) := by decide +kernel
theorem dX5_pass_23 : decode cX5_pass 23 = .ok (.iconst 1, 1) := by decide +kernel
theorem dX5_pass_24 : decode cX5_pass 24 = .ok (.isub, 1) := by decide +kernel
theorem dX5_pass_25 : decode cX5_pass 25 = .ok (.putfield 42, 3) := by decide +kernel
theorem dX5_pass_28 : decode cX5_pass 28 = .ok (.aload_n 0, 1) := by decide +kernel
theorem dX5_pass_29 : decode cX5_pass 29 = .ok (.dup, 1) := by decide +kernel
theorem dX5_pass_30 : decode cX5_pass 30 = .ok (.getfield 48, 3) := by decide +kernel
theorem dX5_pass_33 : decode cX5_pass 33 = .ok (.iconst 1, 1) := by decide +kernel
theorem dX5_pass_34 : decode cX5_pass 34 = .ok (.iadd, 1) := by decide +kernel
theorem dX5_pass_35 : decode cX5_pass 35 = .ok (.putfield 48, 3) := by decide +kernel
theorem dX5_pass_38 : decode cX5_pass 38 = .ok (.iload_n 1, 1) := by decide +kernel
theorem dX5_pass_39 : decode cX5_pass 39 = .ok (.ifCond .le 241, 3) := by decide +kernel
theorem dX5_pass_42 : decode cX5_pass 42 = .ok (.aload_n 0, 1) := by decide +kernel
theorem dX5_pass_43 : decode cX5_pass 43 = .ok (.dup, 1) := by decide +kernel
theorem dX5_pass_44 : decode cX5_pass 44 = .ok (.getfield 48, 3) := by decide +kernel
theorem dX5_pass_47 : decode cX5_pass 47 = .ok (.aload_n 0, 1) := by decide +kernel
theorem dX5_pass_48 : decode cX5_pass 48 = .ok (.getfield 33, 3) := by decide +kernel
theorem dX5_pass_51 : decode cX5_pass 51 = .ok (.iload_n 1, 1) := by decide +kernel
theorem dX5_pass_52 : decode cX5_pass 52 = .ok (.iconst 1, 1) := by decide +kernel
theorem dX5_pass_53 : decode cX5_pass 53 = .ok (.isub, 1) := by decide +kernel
theorem dX5_pass_54 : decode cX5_pass 54 = .ok (.aaload, 1) := by decide +kernel
theorem dX5_pass_55 : decode cX5_pass 55 = .ok (.iconst 3, 1) := by decide +kernel
theorem dX5_pass_56 : decode cX5_pass 56 = .ok (.iaload, 1) := by decide +kernel
theorem dX5_pass_57 : decode cX5_pass 57 = .ok (.iadd, 1) := by decide +kernel
theorem dX5_pass_58 : decode cX5_pass 58 = .ok (.putfield 48, 3) := by decide +kernel
theorem dX5_pass_61 : decode cX5_pass 61 = .ok (.goto 219, 3) := by decide +kernel
theorem dX5_pass_64 : decode cX5_pass 64 = .ok (.aload_n 0, 1) := by decide +kernel
theorem dX5_pass_65 : decode cX5_pass 65 = .ok (.invokevirtual 61, 3) := by decide +kernel
theorem dX5_pass_68 : decode cX5_pass 68 = .ok (.ifCond .le 212, 3) := by decide +kernel
theorem dX5_pass_71 : decode cX5_pass 71 = .ok (.aload_n 0, 1) := by decide +kernel
theorem dX5_pass_72 : decode cX5_pass 72 = .ok (.getfield 13, 3) := by decide +kernel
theorem dX5_pass_75 : decode cX5_pass 75 = .ok (.aload_n 0, 1) := by decide +kernel
theorem dX5_pass_76 : decode cX5_pass 76 = .ok (.getfield 36, 3) := by decide +kernel
theorem dX5_pass_79 : decode cX5_pass 79 = .ok (.baload, 1) := by decide +kernel
theorem dX5_pass_80 : decode cX5_pass 80 = .ok (.ifCond .ne 184, 3) := by decide +kernel
theorem dX5_pass_83 : decode cX5_pass 83 = .ok (.iconst 0, 1) := by decide +kernel
theorem dX5_pass_84 : decode cX5_pass 84 = .ok (.istore_n 2, 1) := by decide +kernel
theorem dX5_pass_85 : decode cX5_pass 85 = .ok (.iconst 0, 1) := by decide +kernel
theorem dX5_pass_86 : decode cX5_pass 86 = .ok (.istore_n 3, 1) := by decide +kernel
theorem dX5_pass_87 : decode cX5_pass 87 = .ok (.iload_n 3, 1) := by decide +kernel
theorem dX5_pass_88 : decode cX5_pass 88 = .ok (.aload_n 0, 1) := by decide +kernel
theorem dX5_pass_89 : decode cX5_pass 89 = .ok (.getfield 13, 3) := by decide +kernel
theorem dX5_pass_92 : decode cX5_pass 92 = .ok (.arraylength, 1) := by decide +kernel
theorem dX5_pass_93 : decode cX5_pass 93 = .ok (.if_icmp .ge 50, 3) := by decide +kernel
theorem dX5_pass_96 : decode cX5_pass 96 = .ok (.aload_n 0, 1) := by decide +kernel
theorem dX5_pass_97 : decode cX5_pass 97 = .ok (.getfield 13, 3) := by decide +kernel
theorem dX5_pass_100 : decode cX5_pass 100 = .ok (.iload_n 3, 1) := by decide +kernel
theorem dX5_pass_101 : decode cX5_pass 101 = .ok (.baload, 1) := by decide +kernel
theorem dX5_pass_102 : decode cX5_pass 102 = .ok (.ifCond .eq 35, 3) := by decide +kernel
theorem dX5_pass_105 : decode cX5_pass 105 = .ok (.aload_n 0, 1) := by decide +kernel
theorem dX5_pass_106 : decode cX5_pass 106 = .ok (.getfield 39, 3) := by decide +kernel
theorem dX5_pass_109 : decode cX5_pass 109 = .ok (.ifCond .le 11, 3) := by decide +kernel
theorem dX5_pass_112 : decode cX5_pass 112 = .ok (.iload_n 3, 1) := by decide +kernel
theorem dX5_pass_113 : decode cX5_pass 113 = .ok (.aload_n 0, 1) := by decide +kernel
theorem dX5_pass_114 : decode cX5_pass 114 = .ok (.getfield 36, 3) := by decide +kernel
theorem dX5_pass_117 : decode cX5_pass 117 = .ok (.if_icmp .gt 18, 3) := by decide +kernel
theorem dX5_pass_120 : decode cX5_pass 120 = .ok (.aload_n 0, 1) := by decide +kernel
theorem dX5_pass_121 : decode cX5_pass 121 = .ok (.getfield 39, 3) := by decide +kernel
theorem dX5_pass_124 : decode cX5_pass 124 = .ok (.ifCond .ge 13, 3) := by decide +kernel
theorem dX5_pass_127 : decode cX5_pass 127 = .ok (.iload_n 3, 1) := by decide +kernel
theorem dX5_pass_128 : decode cX5_pass 128 = .ok (.aload_n 0, 1) := by decide +kernel
theorem dX5_pass_129 : decode cX5_pass 129 = .ok (.getfield 36, 3) := by decide +kernel
theorem dX5_pass_132 : decode cX5_pass 132 = .ok (.if_icmp .ge 5, 3) := by decide +kernel
theorem dX5_pass_135 : decode cX5_pass 135 = .ok (.iconst 1, 1) := by decide +kernel
theorem dX5_pass_136 : decode cX5_pass 136 = .ok (.istore_n 2, 1) := by decide +kernel
theorem dX5_pass_137 : decode cX5_pass 137 = .ok (.iinc 3 1, 3) := by decide +kernel
theorem dX5_pass_140 : decode cX5_pass 140 = .ok (.goto (-53), 3) := by decide +kernel
theorem dX5_pass_143 : decode cX5_pass 143 = .ok (.iload_n 2, 1) := by decide +kernel
theorem dX5_pass_144 : decode cX5_pass 144 = .ok (.ifCond .ne 97, 3) := by decide +kernel
theorem dX5_pass_147 : decode cX5_pass 147 = .ok (.bipush 99, 2) := by decide +kernel
theorem dX5_pass_149 : decode cX5_pass 149 = .ok (.istore_n 3, 1) := by decide +kernel
theorem dX5_pass_150 : decode cX5_pass 150 = .ok (.aload_n 0, 1) := by decide +kernel
theorem dX5_pass_151 : decode cX5_pass 151 = .ok (.getfield 13, 3) := by decide +kernel
theorem dX5_pass_154 : decode cX5_pass 154 = .ok (.arraylength, 1) := by decide +kernel
theorem dX5_pass_155 : decode cX5_pass 155 = .ok (.iconst 1, 1) := by decide +kernel
theorem dX5_pass_156 : decode cX5_pass 156 = .ok (.isub, 1) := by decide +kernel
theorem dX5_pass_157 : decode cX5_pass 157 = .ok (.istore 4, 2) := by decide +kernel
theorem dX5_pass_159 : decode cX5_pass 159 = .ok (.iload 4, 2) := by decide +kernel
theorem dX5_pass_161 : decode cX5_pass 161 = .ok (.ifCond .lt 80, 3) := by decide +kernel
theorem dX5_pass_164 : decode cX5_pass 164 = .ok (.aload_n 0, 1) := by decide +kernel
theorem dX5_pass_165 : decode cX5_pass 165 = .ok (.getfield 13, 3) := by decide +kernel
theorem dX5_pass_168 : decode cX5_pass 168 = .ok (.iload 4, 2) := by decide +kernel
theorem dX5_pass_170 : decode cX5_pass 170 = .ok (.baload, 1) := by decide +kernel
theorem dX5_pass_171 : decode cX5_pass 171 = .ok (.ifCond .ne 6, 3) := by decide +kernel
theorem dX5_pass_174 : decode cX5_pass 174 = .ok (.goto 61, 3) := by decide +kernel
theorem dX5_pass_177 : decode cX5_pass 177 = .ok (.iload 4, 2) := by decide +kernel
theorem dX5_pass_179 : decode cX5_pass 179 = .ok (.aload_n 0, 1) := by decide +kernel
theorem dX5_pass_180 : decode cX5_pass 180 = .ok (.getfield 36, 3) := by decide +kernel
theorem dX5_pass_183 : decode cX5_pass 183 = .ok (.if_icmp .le 13, 3) := by decide +kernel
theorem dX5_pass_186 : decode cX5_pass 186 = .ok (.iload 4, 2) := by decide +kernel
theorem dX5_pass_188 : decode cX5_pass 188 = .ok (.aload_n 0, 1) := by decide +kernel
theorem dX5_pass_189 : decode cX5_pass 189 = .ok (.getfield 36, 3) := by decide +kernel
theorem dX5_pass_192 : decode cX5_pass 192 = .ok (.isub, 1) := by decide +kernel
theorem dX5_pass_193 : decode cX5_pass 193 = .ok (.goto 10, 3) := by decide +kernel
theorem dX5_pass_196 : decode cX5_pass 196 = .ok (.aload_n 0, 1) := by decide +kernel
theorem dX5_pass_197 : decode cX5_pass 197 = .ok (.getfield 36, 3) := by decide +kernel
theorem dX5_pass_200 : decode cX5_pass 200 = .ok (.iload 4, 2) := by decide +kernel
theorem dX5_pass_202 : decode cX5_pass 202 = .ok (.isub, 1) := by decide +kernel
theorem dX5_pass_203 : decode cX5_pass 203 = .ok (.istore 5, 2) := by decide +kernel
theorem dX5_pass_205 : decode cX5_pass 205 = .ok (.iload 5, 2) := by decide +kernel
theorem dX5_pass_207 : decode cX5_pass 207 = .ok (.iload_n 3, 1) := by decide +kernel
theorem dX5_pass_208 : decode cX5_pass 208 = .ok (.if_icmp .lt 6, 3) := by decide +kernel
theorem dX5_pass_211 : decode cX5_pass 211 = .ok (.goto 24, 3) := by decide +kernel
theorem dX5_pass_214 : decode cX5_pass 214 = .ok (.iload 5, 2) := by decide +kernel
theorem dX5_pass_216 : decode cX5_pass 216 = .ok (.istore_n 3, 1) := by decide +kernel
theorem dX5_pass_217 : decode cX5_pass 217 = .ok (.aload_n 0, 1) := by decide +kernel
theorem dX5_pass_218 : decode cX5_pass 218 = .ok (.iload 4, 2) := by decide +kernel
theorem dX5_pass_220 : decode cX5_pass 220 = .ok (.aload_n 0, 1) := by decide +kernel
theorem dX5_pass_221 : decode cX5_pass 221 = .ok (.getfield 36, 3) := by decide +kernel
theorem dX5_pass_224 : decode cX5_pass 224 = .ok (.if_icmp .le 7, 3) := by decide +kernel
theorem dX5_pass_227 : decode cX5_pass 227 = .ok (.iconst 1, 1) := by decide +kernel
theorem dX5_pass_228 : decode cX5_pass 228 = .ok (.goto 4, 3) := by decide +kernel
theorem dX5_pass_231 : decode cX5_pass 231 = .ok (.iconst (-1), 1) := by decide +kernel
theorem dX5_pass_232 : decode cX5_pass 232 = .ok (.putfield 39, 3) := by decide +kernel
theorem dX5_pass_235 : decode cX5_pass 235 = .ok (.iinc 4 (-1), 3) := by decide +kernel
theorem dX5_pass_238 : decode cX5_pass 238 = .ok (.goto (-79), 3) := by decide +kernel
theorem dX5_pass_241 : decode cX5_pass 241 = .ok (.aload_n 0, 1) := by decide +kernel
theorem dX5_pass_242 : decode cX5_pass 242 = .ok (.dup, 1) := by decide +kernel
theorem dX5_pass_243 : decode cX5_pass 243 = .ok (.getfield 36, 3) := by decide +kernel
theorem dX5_pass_246 : decode cX5_pass 246 = .ok (.aload_n 0, 1) := by decide +kernel
theorem dX5_pass_247 : decode cX5_pass 247 = .ok (.getfield 39, 3) := by decide +kernel
theorem dX5_pass_250 : decode cX5_pass 250 = .ok (.iadd, 1) := by decide +kernel
theorem dX5_pass_251 : decode cX5_pass 251 = .ok (.putfield 36, 3) := by decide +kernel
theorem dX5_pass_254 : decode cX5_pass 254 = .ok (.aload_n 0, 1) := by decide +kernel
theorem dX5_pass_255 : decode cX5_pass 255 = .ok (.dup, 1) := by decide +kernel
theorem dX5_pass_256 : decode cX5_pass 256 = .ok (.getfield 45, 3) := by decide +kernel
theorem dX5_pass_259 : decode cX5_pass 259 = .ok (.iconst 1, 1) := by decide +kernel
theorem dX5_pass_260 : decode cX5_pass 260 = .ok (.iadd, 1) := by decide +kernel
theorem dX5_pass_261 : decode cX5_pass 261 = .ok (.putfield 45, 3) := by decide +kernel
theorem dX5_pass_264 : decode cX5_pass 264 = .ok (.aload_n 0, 1) := by decide +kernel
theorem dX5_pass_265 : decode cX5_pass 265 = .ok (.getfield 13, 3) := by decide +kernel
theorem dX5_pass_268 : decode cX5_pass 268 = .ok (.aload_n 0, 1) := by decide +kernel
theorem dX5_pass_269 : decode cX5_pass 269 = .ok (.getfield 36, 3) := by decide +kernel
theorem dX5_pass_272 : decode cX5_pass 272 = .ok (.baload, 1) := by decide +kernel
theorem dX5_pass_273 : decode cX5_pass 273 = .ok (.ifCond .eq 7, 3) := by decide +kernel
theorem dX5_pass_276 : decode cX5_pass 276 = .ok (.aload_n 0, 1) := by decide +kernel
theorem dX5_pass_277 : decode cX5_pass 277 = .ok (.invokevirtual 65, 3) := by decide +kernel
theorem dX5_pass_280 : decode cX5_pass 280 = .ok (.aload_n 0, 1) := by decide +kernel
theorem dX5_pass_281 : decode cX5_pass 281 = .ok (.getfield 33, 3) := by decide +kernel
theorem dX5_pass_284 : decode cX5_pass 284 = .ok (.arraylength, 1) := by decide +kernel
theorem dX5_pass_285 : decode cX5_pass 285 = .ok (.iload_n 1, 1) := by decide +kernel
theorem dX5_pass_286 : decode cX5_pass 286 = .ok (.if_icmp .ne 65, 3) := by decide +kernel
theorem dX5_pass_289 : decode cX5_pass 289 = .ok (.aload_n 0, 1) := by decide +kernel
theorem dX5_pass_290 : decode cX5_pass 290 = .ok (.getfield 27, 3) := by decide +kernel
theorem dX5_pass_293 : decode cX5_pass 293 = .ok (.astore_n 2, 1) := by decide +kernel
theorem dX5_pass_294 : decode cX5_pass 294 = .ok (.aload_n 2, 1) := by decide +kernel
theorem dX5_pass_295 : decode cX5_pass 295 = .ok (.arraylength, 1) := by decide +kernel
theorem dX5_pass_296 : decode cX5_pass 296 = .ok (.istore_n 3, 1) := by decide +kernel
theorem dX5_pass_297 : decode cX5_pass 297 = .ok (.iconst 0, 1) := by decide +kernel
theorem dX5_pass_298 : decode cX5_pass 298 = .ok (.istore 4, 2) := by decide +kernel
theorem dX5_pass_300 : decode cX5_pass 300 = .ok (.iload 4, 2) := by decide +kernel
theorem dX5_pass_302 : decode cX5_pass 302 = .ok (.iload_n 3, 1) := by decide +kernel
theorem dX5_pass_303 : decode cX5_pass 303 = .ok (.if_icmp .ge 48, 3) := by decide +kernel
theorem dX5_pass_306 : decode cX5_pass 306 = .ok (.aload_n 2, 1) := by decide +kernel
theorem dX5_pass_307 : decode cX5_pass 307 = .ok (.iload 4, 2) := by decide +kernel
theorem dX5_pass_309 : decode cX5_pass 309 = .ok (.aaload, 1) := by decide +kernel
theorem dX5_pass_310 : decode cX5_pass 310 = .ok (.astore 5, 2) := by decide +kernel
theorem dX5_pass_312 : decode cX5_pass 312 = .ok (.aload 5, 2) := by decide +kernel
theorem dX5_pass_314 : decode cX5_pass 314 = .ok (.iconst 2, 1) := by decide +kernel
theorem dX5_pass_315 : decode cX5_pass 315 = .ok (.iaload, 1) := by decide +kernel
theorem dX5_pass_316 : decode cX5_pass 316 = .ok (.ifCond .ne 6, 3) := by decide +kernel
theorem dX5_pass_319 : decode cX5_pass 319 = .ok (.goto 26, 3) := by decide +kernel
theorem dX5_pass_322 : decode cX5_pass 322 = .ok (.aload 5, 2) := by decide +kernel
theorem dX5_pass_324 : decode cX5_pass 324 = .ok (.iconst 1, 1) := by decide +kernel
theorem dX5_pass_325 : decode cX5_pass 325 = .ok (.iaload, 1) := by decide +kernel
theorem dX5_pass_326 : decode cX5_pass 326 = .ok (.ifCond .le 14, 3) := by decide +kernel
theorem dX5_pass_329 : decode cX5_pass 329 = .ok (.aload 5, 2) := by decide +kernel
theorem dX5_pass_331 : decode cX5_pass 331 = .ok (.iconst 1, 1) := by decide +kernel
theorem dX5_pass_332 : decode cX5_pass 332 = .ok (.dup2, 1) := by decide +kernel
theorem dX5_pass_333 : decode cX5_pass 333 = .ok (.iaload, 1) := by decide +kernel
theorem dX5_pass_334 : decode cX5_pass 334 = .ok (.iconst 1, 1) := by decide +kernel
theorem dX5_pass_335 : decode cX5_pass 335 = .ok (.isub, 1) := by decide +kernel
theorem dX5_pass_336 : decode cX5_pass 336 = .ok (.iastore, 1) := by decide +kernel
theorem dX5_pass_337 : decode cX5_pass 337 = .ok (.goto 8, 3) := by decide +kernel
theorem dX5_pass_340 : decode cX5_pass 340 = .ok (.aload 5, 2) := by decide +kernel
theorem dX5_pass_342 : decode cX5_pass 342 = .ok (.iconst 2, 1) := by decide +kernel
theorem dX5_pass_343 : decode cX5_pass 343 = .ok (.iconst 0, 1) := by decide +kernel
theorem dX5_pass_344 : decode cX5_pass 344 = .ok (.iastore, 1) := by decide +kernel
theorem dX5_pass_345 : decode cX5_pass 345 = .ok (.iinc 4 1, 3) := by decide +kernel
theorem dX5_pass_348 : decode cX5_pass 348 = .ok (.goto (-48), 3) := by decide +kernel
theorem dX5_pass_351 : decode cX5_pass 351 = .ok (.aload_n 0, 1) := by decide +kernel
theorem dX5_pass_352 : decode cX5_pass 352 = .ok (.invokevirtual 61, 3) := by decide +kernel
theorem dX5_pass_355 : decode cX5_pass 355 = .ok (.ifCond .ne 8, 3) := by decide +kernel
theorem dX5_pass_358 : decode cX5_pass 358 = .ok (.aload_n 0, 1) := by decide +kernel
theorem dX5_pass_359 : decode cX5_pass 359 = .ok (.iconst 0, 1) := by decide +kernel
theorem dX5_pass_360 : decode cX5_pass 360 = .ok (.putfield 39, 3) := by decide +kernel
theorem dX5_pass_363 : decode cX5_pass 363 = .ok (.aload_n 0, 1) := by decide +kernel
theorem dX5_pass_364 : decode cX5_pass 364 = .ok (.getfield 42, 3) := by decide +kernel
theorem dX5_pass_367 : decode cX5_pass 367 = .ok (.ifCond .ne 31, 3) := by decide +kernel
theorem dX5_pass_370 : decode cX5_pass 370 = .ok (.aload_n 0, 1) := by decide +kernel
theorem dX5_pass_371 : decode cX5_pass 371 = .ok (.getfield 45, 3) := by decide +kernel
theorem dX5_pass_374 : decode cX5_pass 374 = .ok (.aload_n 0, 1) := by decide +kernel
theorem dX5_pass_375 : decode cX5_pass 375 = .ok (.getfield 7, 3) := by decide +kernel
theorem dX5_pass_378 : decode cX5_pass 378 = .ok (.if_icmp .lt 20, 3) := by decide +kernel
theorem dX5_pass_381 : decode cX5_pass 381 = .ok (.aload_n 0, 1) := by decide +kernel
theorem dX5_pass_382 : decode cX5_pass 382 = .ok (.iconst 1, 1) := by decide +kernel
theorem dX5_pass_383 : decode cX5_pass 383 = .ok (.aload_n 0, 1) := by decide +kernel
theorem dX5_pass_384 : decode cX5_pass 384 = .ok (.getfield 7, 3) := by decide +kernel
theorem dX5_pass_387 : decode cX5_pass 387 = .ok (.iconst 4, 1) := by decide +kernel
theorem dX5_pass_388 : decode cX5_pass 388 = .ok (.idiv, 1) := by decide +kernel
theorem dX5_pass_389 : decode cX5_pass 389 = .ok (.iadd, 1) := by decide +kernel
theorem dX5_pass_390 : decode cX5_pass 390 = .ok (.putfield 42, 3) := by decide +kernel
theorem dX5_pass_393 : decode cX5_pass 393 = .ok (.aload_n 0, 1) := by decide +kernel
theorem dX5_pass_394 : decode cX5_pass 394 = .ok (.iconst 0, 1) := by decide +kernel
theorem dX5_pass_395 : decode cX5_pass 395 = .ok (.putfield 45, 3) := by decide +kernel
theorem dX5_pass_398 : decode cX5_pass 398 = .ok (.aload_n 0, 1) := by decide +kernel
theorem dX5_pass_399 : decode cX5_pass 399 = .ok (.dup, 1) := by decide +kernel
theorem dX5_pass_400 : decode cX5_pass 400 = .ok (.getfield 54, 3) := by decide +kernel
theorem dX5_pass_403 : decode cX5_pass 403 = .ok (.iconst 1, 1) := by decide +kernel
theorem dX5_pass_404 : decode cX5_pass 404 = .ok (.iadd, 1) := by decide +kernel
theorem dX5_pass_405 : decode cX5_pass 405 = .ok (.putfield 54, 3) := by decide +kernel
theorem dX5_pass_408 : decode cX5_pass 408 = .ok (.return_, 1) := by decide +kernel
theorem dX5_behind_0 : decode cX5_behind 0 = .ok (.aload_n 0, 1) := by decide +kernel
theorem dX5_behind_1 : decode cX5_behind 1 = .ok (.getfield 33, 3) := by decide +kernel
theorem dX5_behind_4 : decode cX5_behind 4 = .ok (.arraylength, 1) := by decide +kernel
theorem dX5_behind_5 : decode cX5_behind 5 = .ok (.istore_n 2, 1) := by decide +kernel
theorem dX5_behind_6 : decode cX5_behind 6 = .ok (.iconst 0, 1) := by decide +kernel
theorem dX5_behind_7 : decode cX5_behind 7 = .ok (.istore_n 3, 1) := by decide +kernel
theorem dX5_behind_8 : decode cX5_behind 8 = .ok (.iload_n 3, 1) := by decide +kernel
theorem dX5_behind_9 : decode cX5_behind 9 = .ok (.iload_n 1, 1) := by decide +kernel
theorem dX5_behind_10 : decode cX5_behind 10 = .ok (.if_icmp .ge 13, 3) := by decide +kernel
theorem dX5_behind_13 : decode cX5_behind 13 = .ok (.aload_n 0, 1) := by decide +kernel
theorem dX5_behind_14 : decode cX5_behind 14 = .ok (.invokevirtual 68, 3) := by decide +kernel
theorem dX5_behind_17 : decode cX5_behind 17 = .ok (.iinc 3 1, 3) := by decide +kernel
theorem dX5_behind_20 : decode cX5_behind 20 = .ok (.goto (-12), 3) := by decide +kernel
theorem dX5_behind_23 : decode cX5_behind 23 = .ok (.aload_n 0, 1) := by decide +kernel
theorem dX5_behind_24 : decode cX5_behind 24 = .ok (.getfield 33, 3) := by decide +kernel
theorem dX5_behind_27 : decode cX5_behind 27 = .ok (.arraylength, 1) := by decide +kernel
theorem dX5_behind_28 : decode cX5_behind 28 = .ok (.iload_n 2, 1) := by decide +kernel
theorem dX5_behind_29 : decode cX5_behind 29 = .ok (.isub, 1) := by decide +kernel
theorem dX5_behind_30 : decode cX5_behind 30 = .ok (.ireturn, 1) := by decide +kernel
theorem dX5_subscribers_0 : decode cX5_subscribers 0 = .ok (.iconst 0, 1) := by decide +kernel
theorem dX5_subscribers_1 : decode cX5_subscribers 1 = .ok (.istore_n 1, 1) := by decide +kernel
theorem dX5_subscribers_2 : decode cX5_subscribers 2 = .ok (.aload_n 0, 1) := by decide +kernel
theorem dX5_subscribers_3 : decode cX5_subscribers 3 = .ok (.getfield 27, 3) := by decide +kernel
theorem dX5_subscribers_6 : decode cX5_subscribers 6 = .ok (.astore_n 2, 1) := by decide +kernel
theorem dX5_subscribers_7 : decode cX5_subscribers 7 = .ok (.aload_n 2, 1) := by decide +kernel
theorem dX5_subscribers_8 : decode cX5_subscribers 8 = .ok (.arraylength, 1) := by decide +kernel
theorem dX5_subscribers_9 : decode cX5_subscribers 9 = .ok (.istore_n 3, 1) := by decide +kernel
theorem dX5_subscribers_10 : decode cX5_subscribers 10 = .ok (.iconst 0, 1) := by decide +kernel
theorem dX5_subscribers_11 : decode cX5_subscribers 11 = .ok (.istore 4, 2) := by decide +kernel
theorem dX5_subscribers_13 : decode cX5_subscribers 13 = .ok (.iload 4, 2) := by decide +kernel
theorem dX5_subscribers_15 : decode cX5_subscribers 15 = .ok (.iload_n 3, 1) := by decide +kernel
theorem dX5_subscribers_16 : decode cX5_subscribers 16 = .ok (.if_icmp .ge 22, 3) := by decide +kernel
theorem dX5_subscribers_19 : decode cX5_subscribers 19 = .ok (.aload_n 2, 1) := by decide +kernel
theorem dX5_subscribers_20 : decode cX5_subscribers 20 = .ok (.iload 4, 2) := by decide +kernel
theorem dX5_subscribers_22 : decode cX5_subscribers 22 = .ok (.aaload, 1) := by decide +kernel
theorem dX5_subscribers_23 : decode cX5_subscribers 23 = .ok (.astore 5, 2) := by decide +kernel
theorem dX5_subscribers_25 : decode cX5_subscribers 25 = .ok (.iload_n 1, 1) := by decide +kernel
theorem dX5_subscribers_26 : decode cX5_subscribers 26 = .ok (.aload 5, 2) := by decide +kernel
theorem dX5_subscribers_28 : decode cX5_subscribers 28 = .ok (.iconst 2, 1) := by decide +kernel
theorem dX5_subscribers_29 : decode cX5_subscribers 29 = .ok (.iaload, 1) := by decide +kernel
theorem dX5_subscribers_30 : decode cX5_subscribers 30 = .ok (.iadd, 1) := by decide +kernel
theorem dX5_subscribers_31 : decode cX5_subscribers 31 = .ok (.istore_n 1, 1) := by decide +kernel
theorem dX5_subscribers_32 : decode cX5_subscribers 32 = .ok (.iinc 4 1, 3) := by decide +kernel
theorem dX5_subscribers_35 : decode cX5_subscribers 35 = .ok (.goto (-22), 3) := by decide +kernel
theorem dX5_subscribers_38 : decode cX5_subscribers 38 = .ok (.iload_n 1, 1) := by decide +kernel
theorem dX5_subscribers_39 : decode cX5_subscribers 39 = .ok (.ireturn, 1) := by decide +kernel
theorem dX5_warmth_0 : decode cX5_warmth 0 = .ok (.iconst 0, 1) := by decide +kernel
theorem dX5_warmth_1 : decode cX5_warmth 1 = .ok (.istore_n 1, 1) := by decide +kernel
theorem dX5_warmth_2 : decode cX5_warmth 2 = .ok (.aload_n 0, 1) := by decide +kernel
theorem dX5_warmth_3 : decode cX5_warmth 3 = .ok (.getfield 27, 3) := by decide +kernel
theorem dX5_warmth_6 : decode cX5_warmth 6 = .ok (.astore_n 2, 1) := by decide +kernel
theorem dX5_warmth_7 : decode cX5_warmth 7 = .ok (.aload_n 2, 1) := by decide +kernel
theorem dX5_warmth_8 : decode cX5_warmth 8 = .ok (.arraylength, 1) := by decide +kernel
theorem dX5_warmth_9 : decode cX5_warmth 9 = .ok (.istore_n 3, 1) := by decide +kernel
theorem dX5_warmth_10 : decode cX5_warmth 10 = .ok (.iconst 0, 1) := by decide +kernel
theorem dX5_warmth_11 : decode cX5_warmth 11 = .ok (.istore 4, 2) := by decide +kernel
theorem dX5_warmth_13 : decode cX5_warmth 13 = .ok (.iload 4, 2) := by decide +kernel
theorem dX5_warmth_15 : decode cX5_warmth 15 = .ok (.iload_n 3, 1) := by decide +kernel
theorem dX5_warmth_16 : decode cX5_warmth 16 = .ok (.if_icmp .ge 27, 3) := by decide +kernel
theorem dX5_warmth_19 : decode cX5_warmth 19 = .ok (.aload_n 2, 1) := by decide +kernel
theorem dX5_warmth_20 : decode cX5_warmth 20 = .ok (.iload 4, 2) := by decide +kernel
theorem dX5_warmth_22 : decode cX5_warmth 22 = .ok (.aaload, 1) := by decide +kernel
theorem dX5_warmth_23 : decode cX5_warmth 23 = .ok (.astore 5, 2) := by decide +kernel
theorem dX5_warmth_25 : decode cX5_warmth 25 = .ok (.iload_n 1, 1) := by decide +kernel
theorem dX5_warmth_26 : decode cX5_warmth 26 = .ok (.aload 5, 2) := by decide +kernel
theorem dX5_warmth_28 : decode cX5_warmth 28 = .ok (.iconst 2, 1) := by decide +kernel
theorem dX5_warmth_29 : decode cX5_warmth 29 = .ok (.iaload, 1) := by decide +kernel
theorem dX5_warmth_30 : decode cX5_warmth 30 = .ok (.aload 5, 2) := by decide +kernel
theorem dX5_warmth_32 : decode cX5_warmth 32 = .ok (.iconst 1, 1) := by decide +kernel
theorem dX5_warmth_33 : decode cX5_warmth 33 = .ok (.iaload, 1) := by decide +kernel
theorem dX5_warmth_34 : decode cX5_warmth 34 = .ok (.imul, 1) := by decide +kernel
theorem dX5_warmth_35 : decode cX5_warmth 35 = .ok (.iadd, 1) := by decide +kernel
theorem dX5_warmth_36 : decode cX5_warmth 36 = .ok (.istore_n 1, 1) := by decide +kernel
theorem dX5_warmth_37 : decode cX5_warmth 37 = .ok (.iinc 4 1, 3) := by decide +kernel
theorem dX5_warmth_40 : decode cX5_warmth 40 = .ok (.goto (-27), 3) := by decide +kernel
theorem dX5_warmth_43 : decode cX5_warmth 43 = .ok (.iload_n 1, 1) := by decide +kernel
theorem dX5_warmth_44 : decode cX5_warmth 44 = .ok (.ireturn, 1) := by decide +kernel
theorem dX5_cuts_0 : decode cX5_cuts 0 = .ok (.iconst 0, 1) := by decide +kernel
theorem dX5_cuts_1 : decode cX5_cuts 1 = .ok (.istore_n 1, 1) := by decide +kernel
theorem dX5_cuts_2 : decode cX5_cuts 2 = .ok (.aload_n 0, 1) := by decide +kernel
theorem dX5_cuts_3 : decode cX5_cuts 3 = .ok (.getfield 22, 3) := by decide +kernel
theorem dX5_cuts_6 : decode cX5_cuts 6 = .ok (.astore_n 2, 1) := by decide +kernel
theorem dX5_cuts_7 : decode cX5_cuts 7 = .ok (.aload_n 2, 1) := by decide +kernel
theorem dX5_cuts_8 : decode cX5_cuts 8 = .ok (.arraylength, 1) := by decide +kernel
theorem dX5_cuts_9 : decode cX5_cuts 9 = .ok (.istore_n 3, 1) := by decide +kernel
theorem dX5_cuts_10 : decode cX5_cuts 10 = .ok (.iconst 0, 1) := by decide +kernel
theorem dX5_cuts_11 : decode cX5_cuts 11 = .ok (.istore 4, 2) := by decide +kernel
theorem dX5_cuts_13 : decode cX5_cuts 13 = .ok (.iload 4, 2) := by decide +kernel
theorem dX5_cuts_15 : decode cX5_cuts 15 = .ok (.iload_n 3, 1) := by decide +kernel
theorem dX5_cuts_16 : decode cX5_cuts 16 = .ok (.if_icmp .ge 22, 3) := by decide +kernel
theorem dX5_cuts_19 : decode cX5_cuts 19 = .ok (.aload_n 2, 1) := by decide +kernel
theorem dX5_cuts_20 : decode cX5_cuts 20 = .ok (.iload 4, 2) := by decide +kernel
theorem dX5_cuts_22 : decode cX5_cuts 22 = .ok (.aaload, 1) := by decide +kernel
theorem dX5_cuts_23 : decode cX5_cuts 23 = .ok (.astore 5, 2) := by decide +kernel
theorem dX5_cuts_25 : decode cX5_cuts 25 = .ok (.iload_n 1, 1) := by decide +kernel
theorem dX5_cuts_26 : decode cX5_cuts 26 = .ok (.aload 5, 2) := by decide +kernel
theorem dX5_cuts_28 : decode cX5_cuts 28 = .ok (.iconst 1, 1) := by decide +kernel
theorem dX5_cuts_29 : decode cX5_cuts 29 = .ok (.iaload, 1) := by decide +kernel
theorem dX5_cuts_30 : decode cX5_cuts 30 = .ok (.iadd, 1) := by decide +kernel
theorem dX5_cuts_31 : decode cX5_cuts 31 = .ok (.istore_n 1, 1) := by decide +kernel
theorem dX5_cuts_32 : decode cX5_cuts 32 = .ok (.iinc 4 1, 3) := by decide +kernel
theorem dX5_cuts_35 : decode cX5_cuts 35 = .ok (.goto (-22), 3) := by decide +kernel
theorem dX5_cuts_38 : decode cX5_cuts 38 = .ok (.iload_n 1, 1) := by decide +kernel
theorem dX5_cuts_39 : decode cX5_cuts 39 = .ok (.ireturn, 1) := by decide +kernel
theorem dX5_grade_0 : decode cX5_grade 0 = .ok (.iconst 4, 1) := by decide +kernel
theorem dX5_grade_1 : decode cX5_grade 1 = .ok (.aload_n 2, 1) := by decide +kernel
theorem dX5_grade_2 : decode cX5_grade 2 = .ok (.iconst 4, 1) := by decide +kernel
theorem dX5_grade_3 : decode cX5_grade 3 = .ok (.iaload, 1) := by decide +kernel
theorem dX5_grade_4 : decode cX5_grade 4 = .ok (.iconst 3, 1) := by decide +kernel
theorem dX5_grade_5 : decode cX5_grade 5 = .ok (.idiv, 1) := by decide +kernel
theorem dX5_grade_6 : decode cX5_grade 6 = .ok (.iadd, 1) := by decide +kernel
theorem dX5_grade_7 : decode cX5_grade 7 = .ok (.istore_n 3, 1) := by decide +kernel
theorem dX5_grade_8 : decode cX5_grade 8 = .ok (.aload_n 2, 1) := by decide +kernel
theorem dX5_grade_9 : decode cX5_grade 9 = .ok (.iconst 2, 1) := by decide +kernel
theorem dX5_grade_10 : decode cX5_grade 10 = .ok (.iaload, 1) := by decide +kernel
theorem dX5_grade_11 : decode cX5_grade 11 = .ok (.aload_n 1, 1) := by decide +kernel
theorem dX5_grade_12 : decode cX5_grade 12 = .ok (.iconst 0, 1) := by decide +kernel
theorem dX5_grade_13 : decode cX5_grade 13 = .ok (.iaload, 1) := by decide +kernel
theorem dX5_grade_14 : decode cX5_grade 14 = .ok (.if_icmp .ne 6, 3) := by decide +kernel
theorem dX5_grade_17 : decode cX5_grade 17 = .ok (.iinc 3 2, 3) := by decide +kernel
theorem dX5_grade_20 : decode cX5_grade 20 = .ok (.aload_n 2, 1) := by decide +kernel
theorem dX5_grade_21 : decode cX5_grade 21 = .ok (.iconst 2, 1) := by decide +kernel
theorem dX5_grade_22 : decode cX5_grade 22 = .ok (.iaload, 1) := by decide +kernel
theorem dX5_grade_23 : decode cX5_grade 23 = .ok (.aload_n 1, 1) := by decide +kernel
theorem dX5_grade_24 : decode cX5_grade 24 = .ok (.iconst 1, 1) := by decide +kernel
theorem dX5_grade_25 : decode cX5_grade 25 = .ok (.iaload, 1) := by decide +kernel
theorem dX5_grade_26 : decode cX5_grade 26 = .ok (.if_icmp .ne 6, 3) := by decide +kernel
theorem dX5_grade_29 : decode cX5_grade 29 = .ok (.iinc 3 (-3), 3) := by decide +kernel
theorem dX5_grade_32 : decode cX5_grade 32 = .ok (.iload_n 3, 1) := by decide +kernel
theorem dX5_grade_33 : decode cX5_grade 33 = .ok (.ifCond .ge 7, 3) := by decide +kernel
theorem dX5_grade_36 : decode cX5_grade 36 = .ok (.iconst 0, 1) := by decide +kernel
theorem dX5_grade_37 : decode cX5_grade 37 = .ok (.goto 15, 3) := by decide +kernel
theorem dX5_grade_40 : decode cX5_grade 40 = .ok (.iload_n 3, 1) := by decide +kernel
theorem dX5_grade_41 : decode cX5_grade 41 = .ok (.bipush 10, 2) := by decide +kernel
theorem dX5_grade_43 : decode cX5_grade 43 = .ok (.if_icmp .le 8, 3) := by decide +kernel
theorem dX5_grade_46 : decode cX5_grade 46 = .ok (.bipush 10, 2) := by decide +kernel
theorem dX5_grade_48 : decode cX5_grade 48 = .ok (.goto 4, 3) := by decide +kernel
theorem dX5_grade_51 : decode cX5_grade 51 = .ok (.iload_n 3, 1) := by decide +kernel
theorem dX5_grade_52 : decode cX5_grade 52 = .ok (.ireturn, 1) := by decide +kernel
theorem dX5_isSame_0 : decode cX5_isSame 0 = .ok (.aload_n 0, 1) := by decide +kernel
theorem dX5_isSame_1 : decode cX5_isSame 1 = .ok (.getfield 22, 3) := by decide +kernel
theorem dX5_isSame_4 : decode cX5_isSame 4 = .ok (.arraylength, 1) := by decide +kernel
theorem dX5_isSame_5 : decode cX5_isSame 5 = .ok (.istore_n 2, 1) := by decide +kernel
theorem dX5_isSame_6 : decode cX5_isSame 6 = .ok (.aload_n 1, 1) := by decide +kernel
theorem dX5_isSame_7 : decode cX5_isSame 7 = .ok (.invokevirtual 78, 3) := by decide +kernel
theorem dX5_isSame_10 : decode cX5_isSame 10 = .ok (.iload_n 2, 1) := by decide +kernel
theorem dX5_isSame_11 : decode cX5_isSame 11 = .ok (.if_icmp .ne 149, 3) := by decide +kernel
theorem dX5_isSame_14 : decode cX5_isSame 14 = .ok (.aload_n 1, 1) := by decide +kernel
theorem dX5_isSame_15 : decode cX5_isSame 15 = .ok (.invokevirtual 83, 3) := by decide +kernel
theorem dX5_isSame_18 : decode cX5_isSame 18 = .ok (.aload_n 0, 1) := by decide +kernel
theorem dX5_isSame_19 : decode cX5_isSame 19 = .ok (.getfield 54, 3) := by decide +kernel
theorem dX5_isSame_22 : decode cX5_isSame 22 = .ok (.if_icmp .ne 138, 3) := by decide +kernel
theorem dX5_isSame_25 : decode cX5_isSame 25 = .ok (.aload_n 1, 1) := by decide +kernel
theorem dX5_isSame_26 : decode cX5_isSame 26 = .ok (.invokevirtual 86, 3) := by decide +kernel
theorem dX5_isSame_29 : decode cX5_isSame 29 = .ok (.aload_n 0, 1) := by decide +kernel
theorem dX5_isSame_30 : decode cX5_isSame 30 = .ok (.getfield 36, 3) := by decide +kernel
theorem dX5_isSame_33 : decode cX5_isSame 33 = .ok (.if_icmp .ne 127, 3) := by decide +kernel
theorem dX5_isSame_36 : decode cX5_isSame 36 = .ok (.aload_n 1, 1) := by decide +kernel
theorem dX5_isSame_37 : decode cX5_isSame 37 = .ok (.invokevirtual 89, 3) := by decide +kernel
theorem dX5_isSame_40 : decode cX5_isSame 40 = .ok (.aload_n 0, 1) := by decide +kernel
theorem dX5_isSame_41 : decode cX5_isSame 41 = .ok (.getfield 39, 3) := by decide +kernel
theorem dX5_isSame_44 : decode cX5_isSame 44 = .ok (.if_icmp .ne 116, 3) := by decide +kernel
theorem dX5_isSame_47 : decode cX5_isSame 47 = .ok (.aload_n 1, 1) := by decide +kernel
theorem dX5_isSame_48 : decode cX5_isSame 48 = .ok (.invokevirtual 92, 3) := by decide +kernel
theorem dX5_isSame_51 : decode cX5_isSame 51 = .ok (.aload_n 0, 1) := by decide +kernel
theorem dX5_isSame_52 : decode cX5_isSame 52 = .ok (.invokevirtual 61, 3) := by decide +kernel
theorem dX5_isSame_55 : decode cX5_isSame 55 = .ok (.if_icmp .ne 105, 3) := by decide +kernel
theorem dX5_isSame_58 : decode cX5_isSame 58 = .ok (.aload_n 1, 1) := by decide +kernel
theorem dX5_isSame_59 : decode cX5_isSame 59 = .ok (.invokevirtual 93, 3) := by decide +kernel
theorem dX5_isSame_62 : decode cX5_isSame 62 = .ok (.aload_n 0, 1) := by decide +kernel
theorem dX5_isSame_63 : decode cX5_isSame 63 = .ok (.getfield 42, 3) := by decide +kernel
theorem dX5_isSame_66 : decode cX5_isSame 66 = .ok (.if_icmp .ne 94, 3) := by decide +kernel
theorem dX5_isSame_69 : decode cX5_isSame 69 = .ok (.aload_n 1, 1) := by decide +kernel
theorem dX5_isSame_70 : decode cX5_isSame 70 = .ok (.invokevirtual 96, 3) := by decide +kernel
theorem dX5_isSame_73 : decode cX5_isSame 73 = .ok (.aload_n 0, 1) := by decide +kernel
theorem dX5_isSame_74 : decode cX5_isSame 74 = .ok (.getfield 45, 3) := by decide +kernel
theorem dX5_isSame_77 : decode cX5_isSame 77 = .ok (.if_icmp .ne 83, 3) := by decide +kernel
theorem dX5_isSame_80 : decode cX5_isSame 80 = .ok (.aload_n 1, 1) := by decide +kernel
theorem dX5_isSame_81 : decode cX5_isSame 81 = .ok (.invokevirtual 98, 3) := by decide +kernel
theorem dX5_isSame_84 : decode cX5_isSame 84 = .ok (.aload_n 0, 1) := by decide +kernel
theorem dX5_isSame_85 : decode cX5_isSame 85 = .ok (.getfield 7, 3) := by decide +kernel
theorem dX5_isSame_88 : decode cX5_isSame 88 = .ok (.if_icmp .ne 72, 3) := by decide +kernel
theorem dX5_isSame_91 : decode cX5_isSame 91 = .ok (.aload_n 1, 1) := by decide +kernel
theorem dX5_isSame_92 : decode cX5_isSame 92 = .ok (.invokevirtual 100, 3) := by decide +kernel
theorem dX5_isSame_95 : decode cX5_isSame 95 = .ok (.aload_n 0, 1) := by decide +kernel
theorem dX5_isSame_96 : decode cX5_isSame 96 = .ok (.getfield 48, 3) := by decide +kernel
theorem dX5_isSame_99 : decode cX5_isSame 99 = .ok (.if_icmp .ne 61, 3) := by decide +kernel
theorem dX5_isSame_102 : decode cX5_isSame 102 = .ok (.aload_n 1, 1) := by decide +kernel
theorem dX5_isSame_103 : decode cX5_isSame 103 = .ok (.invokevirtual 102, 3) := by decide +kernel
theorem dX5_isSame_106 : decode cX5_isSame 106 = .ok (.aload_n 0, 1) := by decide +kernel
theorem dX5_isSame_107 : decode cX5_isSame 107 = .ok (.invokevirtual 105, 3) := by decide +kernel
theorem dX5_isSame_110 : decode cX5_isSame 110 = .ok (.if_icmp .ne 50, 3) := by decide +kernel
theorem dX5_isSame_113 : decode cX5_isSame 113 = .ok (.aload_n 1, 1) := by decide +kernel
theorem dX5_isSame_114 : decode cX5_isSame 114 = .ok (.invokevirtual 106, 3) := by decide +kernel
theorem dX5_isSame_117 : decode cX5_isSame 117 = .ok (.aload_n 0, 1) := by decide +kernel
theorem dX5_isSame_118 : decode cX5_isSame 118 = .ok (.getfield 33, 3) := by decide +kernel
theorem dX5_isSame_121 : decode cX5_isSame 121 = .ok (.arraylength, 1) := by decide +kernel
theorem dX5_isSame_122 : decode cX5_isSame 122 = .ok (.if_icmp .ne 38, 3) := by decide +kernel
theorem dX5_isSame_125 : decode cX5_isSame 125 = .ok (.aload_n 1, 1) := by decide +kernel
theorem dX5_isSame_126 : decode cX5_isSame 126 = .ok (.invokevirtual 109, 3) := by decide +kernel
theorem dX5_isSame_129 : decode cX5_isSame 129 = .ok (.aload_n 0, 1) := by decide +kernel
theorem dX5_isSame_130 : decode cX5_isSame 130 = .ok (.getfield 27, 3) := by decide +kernel
theorem dX5_isSame_133 : decode cX5_isSame 133 = .ok (.arraylength, 1) := by decide +kernel
theorem dX5_isSame_134 : decode cX5_isSame 134 = .ok (.if_icmp .ne 26, 3) := by decide +kernel
theorem dX5_isSame_137 : decode cX5_isSame 137 = .ok (.aload_n 1, 1) := by decide +kernel
theorem dX5_isSame_138 : decode cX5_isSame 138 = .ok (.invokevirtual 111, 3) := by decide +kernel
theorem dX5_isSame_141 : decode cX5_isSame 141 = .ok (.aload_n 0, 1) := by decide +kernel
theorem dX5_isSame_142 : decode cX5_isSame 142 = .ok (.invokevirtual 114, 3) := by decide +kernel
theorem dX5_isSame_145 : decode cX5_isSame 145 = .ok (.if_icmp .ne 15, 3) := by decide +kernel
theorem dX5_isSame_148 : decode cX5_isSame 148 = .ok (.aload_n 1, 1) := by decide +kernel
theorem dX5_isSame_149 : decode cX5_isSame 149 = .ok (.invokevirtual 115, 3) := by decide +kernel
theorem dX5_isSame_152 : decode cX5_isSame 152 = .ok (.aload_n 0, 1) := by decide +kernel
theorem dX5_isSame_153 : decode cX5_isSame 153 = .ok (.getfield 30, 3) := by decide +kernel
theorem dX5_isSame_156 : decode cX5_isSame 156 = .ok (.arraylength, 1) := by decide +kernel
theorem dX5_isSame_157 : decode cX5_isSame 157 = .ok (.if_icmp .eq 5, 3) := by decide +kernel
theorem dX5_isSame_160 : decode cX5_isSame 160 = .ok (.iconst 0, 1) := by decide +kernel
theorem dX5_isSame_161 : decode cX5_isSame 161 = .ok (.ireturn, 1) := by decide +kernel
theorem dX5_isSame_162 : decode cX5_isSame 162 = .ok (.bipush 8, 2) := by decide +kernel
theorem dX5_isSame_164 : decode cX5_isSame 164 = .ok (.newarray .int, 2) := by decide +kernel
theorem dX5_isSame_166 : decode cX5_isSame 166 = .ok (.astore_n 3, 1) := by decide +kernel
theorem dX5_isSame_167 : decode cX5_isSame 167 = .ok (.iconst 0, 1) := by decide +kernel
theorem dX5_isSame_168 : decode cX5_isSame 168 = .ok (.istore 4, 2) := by decide +kernel
theorem dX5_isSame_170 : decode cX5_isSame 170 = .ok (.iload 4, 2) := by decide +kernel
theorem dX5_isSame_172 : decode cX5_isSame 172 = .ok (.iload_n 2, 1) := by decide +kernel
theorem dX5_isSame_173 : decode cX5_isSame 173 = .ok (.if_icmp .ge 177, 3) := by decide +kernel
theorem dX5_isSame_176 : decode cX5_isSame 176 = .ok (.aload_n 0, 1) := by decide +kernel
theorem dX5_isSame_177 : decode cX5_isSame 177 = .ok (.getfield 22, 3) := by decide +kernel
theorem dX5_isSame_180 : decode cX5_isSame 180 = .ok (.iload 4, 2) := by decide +kernel
theorem dX5_isSame_182 : decode cX5_isSame 182 = .ok (.aaload, 1) := by decide +kernel
theorem dX5_isSame_183 : decode cX5_isSame 183 = .ok (.astore 5, 2) := by decide +kernel
theorem dX5_isSame_185 : decode cX5_isSame 185 = .ok (.aload 5, 2) := by decide +kernel
theorem dX5_isSame_187 : decode cX5_isSame 187 = .ok (.arraylength, 1) := by decide +kernel
theorem dX5_isSame_188 : decode cX5_isSame 188 = .ok (.iconst 2, 1) := by decide +kernel
theorem dX5_isSame_189 : decode cX5_isSame 189 = .ok (.isub, 1) := by decide +kernel
theorem dX5_isSame_190 : decode cX5_isSame 190 = .ok (.iconst 2, 1) := by decide +kernel
theorem dX5_isSame_191 : decode cX5_isSame 191 = .ok (.idiv, 1) := by decide +kernel
theorem dX5_isSame_192 : decode cX5_isSame 192 = .ok (.istore 6, 2) := by decide +kernel
theorem dX5_isSame_194 : decode cX5_isSame 194 = .ok (.aload_n 1, 1) := by decide +kernel
theorem dX5_isSame_195 : decode cX5_isSame 195 = .ok (.iload 4, 2) := by decide +kernel
theorem dX5_isSame_197 : decode cX5_isSame 197 = .ok (.invokevirtual 117, 3) := by decide +kernel
theorem dX5_isSame_200 : decode cX5_isSame 200 = .ok (.aload_n 0, 1) := by decide +kernel
theorem dX5_isSame_201 : decode cX5_isSame 201 = .ok (.getfield 13, 3) := by decide +kernel
theorem dX5_isSame_204 : decode cX5_isSame 204 = .ok (.iload 4, 2) := by decide +kernel
theorem dX5_isSame_206 : decode cX5_isSame 206 = .ok (.baload, 1) := by decide +kernel
theorem dX5_isSame_207 : decode cX5_isSame 207 = .ok (.if_icmp .ne 53, 3) := by decide +kernel
theorem dX5_isSame_210 : decode cX5_isSame 210 = .ok (.aload_n 1, 1) := by decide +kernel
theorem dX5_isSame_211 : decode cX5_isSame 211 = .ok (.iload 4, 2) := by decide +kernel
theorem dX5_isSame_213 : decode cX5_isSame 213 = .ok (.invokevirtual 121, 3) := by decide +kernel
theorem dX5_isSame_216 : decode cX5_isSame 216 = .ok (.iload 6, 2) := by decide +kernel
theorem dX5_isSame_218 : decode cX5_isSame 218 = .ok (.if_icmp .ne 42, 3) := by decide +kernel
theorem dX5_isSame_221 : decode cX5_isSame 221 = .ok (.aload_n 1, 1) := by decide +kernel
theorem dX5_isSame_222 : decode cX5_isSame 222 = .ok (.iload 4, 2) := by decide +kernel
theorem dX5_isSame_224 : decode cX5_isSame 224 = .ok (.invokevirtual 125, 3) := by decide +kernel
theorem dX5_isSame_227 : decode cX5_isSame 227 = .ok (.aload 5, 2) := by decide +kernel
theorem dX5_isSame_229 : decode cX5_isSame 229 = .ok (.iconst 0, 1) := by decide +kernel
theorem dX5_isSame_230 : decode cX5_isSame 230 = .ok (.iaload, 1) := by decide +kernel
theorem dX5_isSame_231 : decode cX5_isSame 231 = .ok (.iload 6, 2) := by decide +kernel
theorem dX5_isSame_233 : decode cX5_isSame 233 = .ok (.if_icmp .ne 7, 3) := by decide +kernel
theorem dX5_isSame_236 : decode cX5_isSame 236 = .ok (.iconst (-1), 1) := by decide +kernel
theorem dX5_isSame_237 : decode cX5_isSame 237 = .ok (.goto 7, 3) := by decide +kernel
theorem dX5_isSame_240 : decode cX5_isSame 240 = .ok (.aload 5, 2) := by decide +kernel
theorem dX5_isSame_242 : decode cX5_isSame 242 = .ok (.iconst 0, 1) := by decide +kernel
theorem dX5_isSame_243 : decode cX5_isSame 243 = .ok (.iaload, 1) := by decide +kernel
theorem dX5_isSame_244 : decode cX5_isSame 244 = .ok (.if_icmp .ne 16, 3) := by decide +kernel
theorem dX5_isSame_247 : decode cX5_isSame 247 = .ok (.aload_n 1, 1) := by decide +kernel
theorem dX5_isSame_248 : decode cX5_isSame 248 = .ok (.iload 4, 2) := by decide +kernel
theorem dX5_isSame_250 : decode cX5_isSame 250 = .ok (.invokevirtual 128, 3) := by decide +kernel
theorem dX5_isSame_253 : decode cX5_isSame 253 = .ok (.aload 5, 2) := by decide +kernel
theorem dX5_isSame_255 : decode cX5_isSame 255 = .ok (.iconst 1, 1) := by decide +kernel
theorem dX5_isSame_256 : decode cX5_isSame 256 = .ok (.iaload, 1) := by decide +kernel
theorem dX5_isSame_257 : decode cX5_isSame 257 = .ok (.if_icmp .eq 5, 3) := by decide +kernel
theorem dX5_isSame_260 : decode cX5_isSame 260 = .ok (.iconst 0, 1) := by decide +kernel
theorem dX5_isSame_261 : decode cX5_isSame 261 = .ok (.ireturn, 1) := by decide +kernel
theorem dX5_isSame_262 : decode cX5_isSame 262 = .ok (.iconst 0, 1) := by decide +kernel
theorem dX5_isSame_263 : decode cX5_isSame 263 = .ok (.istore 7, 2) := by decide +kernel
theorem dX5_isSame_265 : decode cX5_isSame 265 = .ok (.iload 7, 2) := by decide +kernel
theorem dX5_isSame_267 : decode cX5_isSame 267 = .ok (.iload 6, 2) := by decide +kernel
theorem dX5_isSame_269 : decode cX5_isSame 269 = .ok (.if_icmp .ge 75, 3) := by decide +kernel
theorem dX5_isSame_272 : decode cX5_isSame 272 = .ok (.aload_n 1, 1) := by decide +kernel
theorem dX5_isSame_273 : decode cX5_isSame 273 = .ok (.iload 4, 2) := by decide +kernel
theorem dX5_isSame_275 : decode cX5_isSame 275 = .ok (.iload 7, 2) := by decide +kernel
theorem dX5_isSame_277 : decode cX5_isSame 277 = .ok (.invokevirtual 131, 3) := by decide +kernel
theorem dX5_isSame_280 : decode cX5_isSame 280 = .ok (.aload 5, 2) := by decide +kernel
theorem dX5_isSame_282 : decode cX5_isSame 282 = .ok (.iconst 2, 1) := by decide +kernel
theorem dX5_isSame_283 : decode cX5_isSame 283 = .ok (.iconst 2, 1) := by decide +kernel
theorem dX5_isSame_284 : decode cX5_isSame 284 = .ok (.iload 7, 2) := by decide +kernel
theorem dX5_isSame_286 : decode cX5_isSame 286 = .ok (.imul, 1) := by decide +kernel
theorem dX5_isSame_287 : decode cX5_isSame 287 = .ok (.iadd, 1) := by decide +kernel
theorem dX5_isSame_288 : decode cX5_isSame 288 = .ok (.iaload, 1) := by decide +kernel
theorem dX5_isSame_289 : decode cX5_isSame 289 = .ok (.if_icmp .ne 23, 3) := by decide +kernel
theorem dX5_isSame_292 : decode cX5_isSame 292 = .ok (.aload_n 1, 1) := by decide +kernel
theorem dX5_isSame_293 : decode cX5_isSame 293 = .ok (.iload 4, 2) := by decide +kernel
theorem dX5_isSame_295 : decode cX5_isSame 295 = .ok (.iload 7, 2) := by decide +kernel
theorem dX5_isSame_297 : decode cX5_isSame 297 = .ok (.invokevirtual 135, 3) := by decide +kernel
theorem dX5_isSame_300 : decode cX5_isSame 300 = .ok (.aload 5, 2) := by decide +kernel
theorem dX5_isSame_302 : decode cX5_isSame 302 = .ok (.iconst 3, 1) := by decide +kernel
theorem dX5_isSame_303 : decode cX5_isSame 303 = .ok (.iconst 2, 1) := by decide +kernel
theorem dX5_isSame_304 : decode cX5_isSame 304 = .ok (.iload 7, 2) := by decide +kernel
theorem dX5_isSame_306 : decode cX5_isSame 306 = .ok (.imul, 1) := by decide +kernel
theorem dX5_isSame_307 : decode cX5_isSame 307 = .ok (.iadd, 1) := by decide +kernel
theorem dX5_isSame_308 : decode cX5_isSame 308 = .ok (.iaload, 1) := by decide +kernel
theorem dX5_isSame_309 : decode cX5_isSame 309 = .ok (.if_icmp .eq 5, 3) := by decide +kernel
theorem dX5_isSame_312 : decode cX5_isSame 312 = .ok (.iconst 0, 1) := by decide +kernel
theorem dX5_isSame_313 : decode cX5_isSame 313 = .ok (.ireturn, 1) := by decide +kernel
theorem dX5_isSame_314 : decode cX5_isSame 314 = .ok (.iload 7, 2) := by decide +kernel
theorem dX5_isSame_316 : decode cX5_isSame 316 = .ok (.aload 5, 2) := by decide +kernel
theorem dX5_isSame_318 : decode cX5_isSame 318 = .ok (.iconst 0, 1) := by decide +kernel
theorem dX5_isSame_319 : decode cX5_isSame 319 = .ok (.iaload, 1) := by decide +kernel
theorem dX5_isSame_320 : decode cX5_isSame 320 = .ok (.if_icmp .lt 18, 3) := by decide +kernel
theorem dX5_isSame_323 : decode cX5_isSame 323 = .ok (.aload_n 3, 1) := by decide +kernel
theorem dX5_isSame_324 : decode cX5_isSame 324 = .ok (.aload 5, 2) := by decide +kernel
theorem dX5_isSame_326 : decode cX5_isSame 326 = .ok (.iconst 2, 1) := by decide +kernel
theorem dX5_isSame_327 : decode cX5_isSame 327 = .ok (.iconst 2, 1) := by decide +kernel
theorem dX5_isSame_328 : decode cX5_isSame 328 = .ok (.iload 7, 2) := by decide +kernel
theorem dX5_isSame_330 : decode cX5_isSame 330 = .ok (.imul, 1) := by decide +kernel
theorem dX5_isSame_331 : decode cX5_isSame 331 = .ok (.iadd, 1) := by decide +kernel
theorem dX5_isSame_332 : decode cX5_isSame 332 = .ok (.iaload, 1) := by decide +kernel
theorem dX5_isSame_333 : decode cX5_isSame 333 = .ok (.dup2, 1) := by decide +kernel
theorem dX5_isSame_334 : decode cX5_isSame 334 = .ok (.iaload, 1) := by decide +kernel
theorem dX5_isSame_335 : decode cX5_isSame 335 = .ok (.iconst 1, 1) := by decide +kernel
theorem dX5_isSame_336 : decode cX5_isSame 336 = .ok (.iadd, 1) := by decide +kernel
theorem dX5_isSame_337 : decode cX5_isSame 337 = .ok (.iastore, 1) := by decide +kernel
theorem dX5_isSame_338 : decode cX5_isSame 338 = .ok (.iinc 7 1, 3) := by decide +kernel
theorem dX5_isSame_341 : decode cX5_isSame 341 = .ok (.goto (-76), 3) := by decide +kernel
theorem dX5_isSame_344 : decode cX5_isSame 344 = .ok (.iinc 4 1, 3) := by decide +kernel
theorem dX5_isSame_347 : decode cX5_isSame 347 = .ok (.goto (-177), 3) := by decide +kernel
theorem dX5_isSame_350 : decode cX5_isSame 350 = .ok (.iconst 0, 1) := by decide +kernel
theorem dX5_isSame_351 : decode cX5_isSame 351 = .ok (.istore 4, 2) := by decide +kernel
theorem dX5_isSame_353 : decode cX5_isSame 353 = .ok (.iload 4, 2) := by decide +kernel
theorem dX5_isSame_355 : decode cX5_isSame 355 = .ok (.bipush 8, 2) := by decide +kernel
theorem dX5_isSame_357 : decode cX5_isSame 357 = .ok (.if_icmp .ge 40, 3) := by decide +kernel
theorem dX5_isSame_360 : decode cX5_isSame 360 = .ok (.aload_n 1, 1) := by decide +kernel
theorem dX5_isSame_361 : decode cX5_isSame 361 = .ok (.iload 4, 2) := by decide +kernel
theorem dX5_isSame_363 : decode cX5_isSame 363 = .ok (.invokevirtual 138, 3) := by decide +kernel
theorem dX5_isSame_366 : decode cX5_isSame 366 = .ok (.aload_n 0, 1) := by decide +kernel
theorem dX5_isSame_367 : decode cX5_isSame 367 = .ok (.getfield 17, 3) := by decide +kernel
theorem dX5_isSame_370 : decode cX5_isSame 370 = .ok (.iload 4, 2) := by decide +kernel
theorem dX5_isSame_372 : decode cX5_isSame 372 = .ok (.baload, 1) := by decide +kernel
theorem dX5_isSame_373 : decode cX5_isSame 373 = .ok (.if_icmp .ne 16, 3) := by decide +kernel
theorem dX5_isSame_376 : decode cX5_isSame 376 = .ok (.aload_n 1, 1) := by decide +kernel
theorem dX5_isSame_377 : decode cX5_isSame 377 = .ok (.iload 4, 2) := by decide +kernel
theorem dX5_isSame_379 : decode cX5_isSame 379 = .ok (.invokevirtual 141, 3) := by decide +kernel
theorem dX5_isSame_382 : decode cX5_isSame 382 = .ok (.aload_n 3, 1) := by decide +kernel
theorem dX5_isSame_383 : decode cX5_isSame 383 = .ok (.iload 4, 2) := by decide +kernel
theorem dX5_isSame_385 : decode cX5_isSame 385 = .ok (.iaload, 1) := by decide +kernel
theorem dX5_isSame_386 : decode cX5_isSame 386 = .ok (.if_icmp .eq 5, 3) := by decide +kernel
theorem dX5_isSame_389 : decode cX5_isSame 389 = .ok (.iconst 0, 1) := by decide +kernel
theorem dX5_isSame_390 : decode cX5_isSame 390 = .ok (.ireturn, 1) := by decide +kernel
theorem dX5_isSame_391 : decode cX5_isSame 391 = .ok (.iinc 4 1, 3) := by decide +kernel
theorem dX5_isSame_394 : decode cX5_isSame 394 = .ok (.goto (-41), 3) := by decide +kernel
theorem dX5_isSame_397 : decode cX5_isSame 397 = .ok (.iconst (-1), 1) := by decide +kernel
theorem dX5_isSame_398 : decode cX5_isSame 398 = .ok (.istore 4, 2) := by decide +kernel
theorem dX5_isSame_400 : decode cX5_isSame 400 = .ok (.iconst 0, 1) := by decide +kernel
theorem dX5_isSame_401 : decode cX5_isSame 401 = .ok (.istore 5, 2) := by decide +kernel
theorem dX5_isSame_403 : decode cX5_isSame 403 = .ok (.iconst 0, 1) := by decide +kernel
theorem dX5_isSame_404 : decode cX5_isSame 404 = .ok (.istore 6, 2) := by decide +kernel
theorem dX5_isSame_406 : decode cX5_isSame 406 = .ok (.iconst 0, 1) := by decide +kernel
theorem dX5_isSame_407 : decode cX5_isSame 407 = .ok (.istore 7, 2) := by decide +kernel
theorem dX5_isSame_409 : decode cX5_isSame 409 = .ok (.iload 7, 2) := by decide +kernel
theorem dX5_isSame_411 : decode cX5_isSame 411 = .ok (.aload_n 0, 1) := by decide +kernel
theorem dX5_isSame_412 : decode cX5_isSame 412 = .ok (.getfield 33, 3) := by decide +kernel
theorem dX5_isSame_415 : decode cX5_isSame 415 = .ok (.arraylength, 1) := by decide +kernel
theorem dX5_isSame_416 : decode cX5_isSame 416 = .ok (.if_icmp .ge 151, 3) := by decide +kernel
theorem dX5_isSame_419 : decode cX5_isSame 419 = .ok (.aload_n 0, 1) := by decide +kernel
theorem dX5_isSame_420 : decode cX5_isSame 420 = .ok (.getfield 33, 3) := by decide +kernel
theorem dX5_isSame_423 : decode cX5_isSame 423 = .ok (.iload 7, 2) := by decide +kernel
theorem dX5_isSame_425 : decode cX5_isSame 425 = .ok (.aaload, 1) := by decide +kernel
theorem dX5_isSame_426 : decode cX5_isSame 426 = .ok (.astore 8, 2) := by decide +kernel
theorem dX5_isSame_428 : decode cX5_isSame 428 = .ok (.iload 4, 2) := by decide +kernel
theorem dX5_isSame_430 : decode cX5_isSame 430 = .ok (.ifCond .lt 19, 3) := by decide +kernel
theorem dX5_isSame_433 : decode cX5_isSame 433 = .ok (.aload 8, 2) := by decide +kernel
theorem dX5_isSame_435 : decode cX5_isSame 435 = .ok (.iconst 4, 1) := by decide +kernel
theorem dX5_isSame_436 : decode cX5_isSame 436 = .ok (.iaload, 1) := by decide +kernel
theorem dX5_isSame_437 : decode cX5_isSame 437 = .ok (.aload_n 0, 1) := by decide +kernel
theorem dX5_isSame_438 : decode cX5_isSame 438 = .ok (.getfield 33, 3) := by decide +kernel
theorem dX5_isSame_441 : decode cX5_isSame 441 = .ok (.iload 4, 2) := by decide +kernel
theorem dX5_isSame_443 : decode cX5_isSame 443 = .ok (.aaload, 1) := by decide +kernel
theorem dX5_isSame_444 : decode cX5_isSame 444 = .ok (.iconst 4, 1) := by decide +kernel
theorem dX5_isSame_445 : decode cX5_isSame 445 = .ok (.iaload, 1) := by decide +kernel
theorem dX5_isSame_446 : decode cX5_isSame 446 = .ok (.if_icmp .le 7, 3) := by decide +kernel
theorem dX5_isSame_449 : decode cX5_isSame 449 = .ok (.iload 7, 2) := by decide +kernel
theorem dX5_isSame_451 : decode cX5_isSame 451 = .ok (.istore 4, 2) := by decide +kernel
theorem dX5_isSame_453 : decode cX5_isSame 453 = .ok (.iload 7, 2) := by decide +kernel
theorem dX5_isSame_455 : decode cX5_isSame 455 = .ok (.ifCond .le 26, 3) := by decide +kernel
theorem dX5_isSame_458 : decode cX5_isSame 458 = .ok (.iload 5, 2) := by decide +kernel
theorem dX5_isSame_460 : decode cX5_isSame 460 = .ok (.aload 8, 2) := by decide +kernel
theorem dX5_isSame_462 : decode cX5_isSame 462 = .ok (.iconst 5, 1) := by decide +kernel
theorem dX5_isSame_463 : decode cX5_isSame 463 = .ok (.iaload, 1) := by decide +kernel
theorem dX5_isSame_464 : decode cX5_isSame 464 = .ok (.aload_n 0, 1) := by decide +kernel
theorem dX5_isSame_465 : decode cX5_isSame 465 = .ok (.getfield 33, 3) := by decide +kernel
theorem dX5_isSame_468 : decode cX5_isSame 468 = .ok (.iload 7, 2) := by decide +kernel
theorem dX5_isSame_470 : decode cX5_isSame 470 = .ok (.iconst 1, 1) := by decide +kernel
theorem dX5_isSame_471 : decode cX5_isSame 471 = .ok (.isub, 1) := by decide +kernel
theorem dX5_isSame_472 : decode cX5_isSame 472 = .ok (.aaload, 1) := by decide +kernel
theorem dX5_isSame_473 : decode cX5_isSame 473 = .ok (.iconst 5, 1) := by decide +kernel
theorem dX5_isSame_474 : decode cX5_isSame 474 = .ok (.iaload, 1) := by decide +kernel
theorem dX5_isSame_475 : decode cX5_isSame 475 = .ok (.isub, 1) := by decide +kernel
theorem dX5_isSame_476 : decode cX5_isSame 476 = .ok (.invokestatic 144, 3) := by decide +kernel
theorem dX5_isSame_479 : decode cX5_isSame 479 = .ok (.istore 5, 2) := by decide +kernel
theorem dX5_isSame_481 : decode cX5_isSame 481 = .ok (.iload 7, 2) := by decide +kernel
theorem dX5_isSame_483 : decode cX5_isSame 483 = .ok (.ifCond .le 24, 3) := by decide +kernel
theorem dX5_isSame_486 : decode cX5_isSame 486 = .ok (.aload 8, 2) := by decide +kernel
theorem dX5_isSame_488 : decode cX5_isSame 488 = .ok (.iconst 0, 1) := by decide +kernel
theorem dX5_isSame_489 : decode cX5_isSame 489 = .ok (.iaload, 1) := by decide +kernel
theorem dX5_isSame_490 : decode cX5_isSame 490 = .ok (.aload_n 0, 1) := by decide +kernel
theorem dX5_isSame_491 : decode cX5_isSame 491 = .ok (.getfield 33, 3) := by decide +kernel
theorem dX5_isSame_494 : decode cX5_isSame 494 = .ok (.iload 7, 2) := by decide +kernel
theorem dX5_isSame_496 : decode cX5_isSame 496 = .ok (.iconst 1, 1) := by decide +kernel
theorem dX5_isSame_497 : decode cX5_isSame 497 = .ok (.isub, 1) := by decide +kernel
theorem dX5_isSame_498 : decode cX5_isSame 498 = .ok (.aaload, 1) := by decide +kernel
theorem dX5_isSame_499 : decode cX5_isSame 499 = .ok (.iconst 0, 1) := by decide +kernel
theorem dX5_isSame_500 : decode cX5_isSame 500 = .ok (.iaload, 1) := by decide +kernel
theorem dX5_isSame_501 : decode cX5_isSame 501 = .ok (.if_icmp .le 6, 3) := by decide +kernel
theorem dX5_isSame_504 : decode cX5_isSame 504 = .ok (.iinc 6 1, 3) := by decide +kernel
theorem dX5_isSame_507 : decode cX5_isSame 507 = .ok (.aload_n 1, 1) := by decide +kernel
theorem dX5_isSame_508 : decode cX5_isSame 508 = .ok (.iload 7, 2) := by decide +kernel
theorem dX5_isSame_510 : decode cX5_isSame 510 = .ok (.invokevirtual 149, 3) := by decide +kernel
theorem dX5_isSame_513 : decode cX5_isSame 513 = .ok (.aload 8, 2) := by decide +kernel
theorem dX5_isSame_515 : decode cX5_isSame 515 = .ok (.iconst 0, 1) := by decide +kernel
theorem dX5_isSame_516 : decode cX5_isSame 516 = .ok (.iaload, 1) := by decide +kernel
theorem dX5_isSame_517 : decode cX5_isSame 517 = .ok (.if_icmp .ne 42, 3) := by decide +kernel
theorem dX5_isSame_520 : decode cX5_isSame 520 = .ok (.aload_n 1, 1) := by decide +kernel
theorem dX5_isSame_521 : decode cX5_isSame 521 = .ok (.iload 7, 2) := by decide +kernel
theorem dX5_isSame_523 : decode cX5_isSame 523 = .ok (.invokevirtual 152, 3) := by decide +kernel
theorem dX5_isSame_526 : decode cX5_isSame 526 = .ok (.aload 8, 2) := by decide +kernel
theorem dX5_isSame_528 : decode cX5_isSame 528 = .ok (.iconst 1, 1) := by decide +kernel
theorem dX5_isSame_529 : decode cX5_isSame 529 = .ok (.iaload, 1) := by decide +kernel
theorem dX5_isSame_530 : decode cX5_isSame 530 = .ok (.if_icmp .ne 29, 3) := by decide +kernel
theorem dX5_isSame_533 : decode cX5_isSame 533 = .ok (.aload_n 1, 1) := by decide +kernel
theorem dX5_isSame_534 : decode cX5_isSame 534 = .ok (.iload 7, 2) := by decide +kernel
theorem dX5_isSame_536 : decode cX5_isSame 536 = .ok (.invokevirtual 155, 3) := by decide +kernel
theorem dX5_isSame_539 : decode cX5_isSame 539 = .ok (.aload 8, 2) := by decide +kernel
theorem dX5_isSame_541 : decode cX5_isSame 541 = .ok (.iconst 4, 1) := by decide +kernel
theorem dX5_isSame_542 : decode cX5_isSame 542 = .ok (.iaload, 1) := by decide +kernel
theorem dX5_isSame_543 : decode cX5_isSame 543 = .ok (.if_icmp .ne 16, 3) := by decide +kernel
theorem dX5_isSame_546 : decode cX5_isSame 546 = .ok (.aload_n 1, 1) := by decide +kernel
theorem dX5_isSame_547 : decode cX5_isSame 547 = .ok (.iload 7, 2) := by decide +kernel
theorem dX5_isSame_549 : decode cX5_isSame 549 = .ok (.invokevirtual 158, 3) := by decide +kernel
theorem dX5_isSame_552 : decode cX5_isSame 552 = .ok (.aload 8, 2) := by decide +kernel
theorem dX5_isSame_554 : decode cX5_isSame 554 = .ok (.iconst 5, 1) := by decide +kernel
theorem dX5_isSame_555 : decode cX5_isSame 555 = .ok (.iaload, 1) := by decide +kernel
theorem dX5_isSame_556 : decode cX5_isSame 556 = .ok (.if_icmp .eq 5, 3) := by decide +kernel
theorem dX5_isSame_559 : decode cX5_isSame 559 = .ok (.iconst 0, 1) := by decide +kernel
theorem dX5_isSame_560 : decode cX5_isSame 560 = .ok (.ireturn, 1) := by decide +kernel
theorem dX5_isSame_561 : decode cX5_isSame 561 = .ok (.iinc 7 1, 3) := by decide +kernel
theorem dX5_isSame_564 : decode cX5_isSame 564 = .ok (.goto (-155), 3) := by decide +kernel
theorem dX5_isSame_567 : decode cX5_isSame 567 = .ok (.iconst (-1), 1) := by decide +kernel
theorem dX5_isSame_568 : decode cX5_isSame 568 = .ok (.istore 7, 2) := by decide +kernel
theorem dX5_isSame_570 : decode cX5_isSame 570 = .ok (.iconst 0, 1) := by decide +kernel
theorem dX5_isSame_571 : decode cX5_isSame 571 = .ok (.istore 8, 2) := by decide +kernel
theorem dX5_isSame_573 : decode cX5_isSame 573 = .ok (.iload 8, 2) := by decide +kernel
theorem dX5_isSame_575 : decode cX5_isSame 575 = .ok (.aload_n 0, 1) := by decide +kernel
theorem dX5_isSame_576 : decode cX5_isSame 576 = .ok (.getfield 27, 3) := by decide +kernel
theorem dX5_isSame_579 : decode cX5_isSame 579 = .ok (.arraylength, 1) := by decide +kernel
theorem dX5_isSame_580 : decode cX5_isSame 580 = .ok (.if_icmp .ge 106, 3) := by decide +kernel
theorem dX5_isSame_583 : decode cX5_isSame 583 = .ok (.aload_n 0, 1) := by decide +kernel
theorem dX5_isSame_584 : decode cX5_isSame 584 = .ok (.getfield 27, 3) := by decide +kernel
theorem dX5_isSame_587 : decode cX5_isSame 587 = .ok (.iload 8, 2) := by decide +kernel
theorem dX5_isSame_589 : decode cX5_isSame 589 = .ok (.aaload, 1) := by decide +kernel
theorem dX5_isSame_590 : decode cX5_isSame 590 = .ok (.astore 9, 2) := by decide +kernel
theorem dX5_isSame_592 : decode cX5_isSame 592 = .ok (.aload 9, 2) := by decide +kernel
theorem dX5_isSame_594 : decode cX5_isSame 594 = .ok (.iconst 2, 1) := by decide +kernel
theorem dX5_isSame_595 : decode cX5_isSame 595 = .ok (.iaload, 1) := by decide +kernel
theorem dX5_isSame_596 : decode cX5_isSame 596 = .ok (.iconst 1, 1) := by decide +kernel
theorem dX5_isSame_597 : decode cX5_isSame 597 = .ok (.if_icmp .ne 28, 3) := by decide +kernel
theorem dX5_isSame_600 : decode cX5_isSame 600 = .ok (.iload 7, 2) := by decide +kernel
theorem dX5_isSame_602 : decode cX5_isSame 602 = .ok (.ifCond .lt 19, 3) := by decide +kernel
theorem dX5_isSame_605 : decode cX5_isSame 605 = .ok (.aload 9, 2) := by decide +kernel
theorem dX5_isSame_607 : decode cX5_isSame 607 = .ok (.iconst 1, 1) := by decide +kernel
theorem dX5_isSame_608 : decode cX5_isSame 608 = .ok (.iaload, 1) := by decide +kernel
theorem dX5_isSame_609 : decode cX5_isSame 609 = .ok (.aload_n 0, 1) := by decide +kernel
theorem dX5_isSame_610 : decode cX5_isSame 610 = .ok (.getfield 27, 3) := by decide +kernel
theorem dX5_isSame_613 : decode cX5_isSame 613 = .ok (.iload 7, 2) := by decide +kernel
theorem dX5_isSame_615 : decode cX5_isSame 615 = .ok (.aaload, 1) := by decide +kernel
theorem dX5_isSame_616 : decode cX5_isSame 616 = .ok (.iconst 1, 1) := by decide +kernel
theorem dX5_isSame_617 : decode cX5_isSame 617 = .ok (.iaload, 1) := by decide +kernel
theorem dX5_isSame_618 : decode cX5_isSame 618 = .ok (.if_icmp .le 7, 3) := by decide +kernel
theorem dX5_isSame_621 : decode cX5_isSame 621 = .ok (.iload 8, 2) := by decide +kernel
theorem dX5_isSame_623 : decode cX5_isSame 623 = .ok (.istore 7, 2) := by decide +kernel
theorem dX5_isSame_625 : decode cX5_isSame 625 = .ok (.aload_n 1, 1) := by decide +kernel
theorem dX5_isSame_626 : decode cX5_isSame 626 = .ok (.iload 8, 2) := by decide +kernel
theorem dX5_isSame_628 : decode cX5_isSame 628 = .ok (.invokevirtual 161, 3) := by decide +kernel
theorem dX5_isSame_631 : decode cX5_isSame 631 = .ok (.aload 9, 2) := by decide +kernel
theorem dX5_isSame_633 : decode cX5_isSame 633 = .ok (.iconst 0, 1) := by decide +kernel
theorem dX5_isSame_634 : decode cX5_isSame 634 = .ok (.iaload, 1) := by decide +kernel
theorem dX5_isSame_635 : decode cX5_isSame 635 = .ok (.if_icmp .ne 43, 3) := by decide +kernel
theorem dX5_isSame_638 : decode cX5_isSame 638 = .ok (.aload_n 1, 1) := by decide +kernel
theorem dX5_isSame_639 : decode cX5_isSame 639 = .ok (.iload 8, 2) := by decide +kernel
theorem dX5_isSame_641 : decode cX5_isSame 641 = .ok (.invokevirtual 164, 3) := by decide +kernel
theorem dX5_isSame_644 : decode cX5_isSame 644 = .ok (.aload 9, 2) := by decide +kernel
theorem dX5_isSame_646 : decode cX5_isSame 646 = .ok (.iconst 1, 1) := by decide +kernel
theorem dX5_isSame_647 : decode cX5_isSame 647 = .ok (.iaload, 1) := by decide +kernel
theorem dX5_isSame_648 : decode cX5_isSame 648 = .ok (.aload 9, 2) := by decide +kernel
theorem dX5_isSame_650 : decode cX5_isSame 650 = .ok (.iconst 2, 1) := by decide +kernel
theorem dX5_isSame_651 : decode cX5_isSame 651 = .ok (.iaload, 1) := by decide +kernel
theorem dX5_isSame_652 : decode cX5_isSame 652 = .ok (.imul, 1) := by decide +kernel
theorem dX5_isSame_653 : decode cX5_isSame 653 = .ok (.if_icmp .ne 25, 3) := by decide +kernel
theorem dX5_isSame_656 : decode cX5_isSame 656 = .ok (.aload_n 1, 1) := by decide +kernel
theorem dX5_isSame_657 : decode cX5_isSame 657 = .ok (.iload 8, 2) := by decide +kernel
theorem dX5_isSame_659 : decode cX5_isSame 659 = .ok (.invokevirtual 167, 3) := by decide +kernel
theorem dX5_isSame_662 : decode cX5_isSame 662 = .ok (.aload 9, 2) := by decide +kernel
theorem dX5_isSame_664 : decode cX5_isSame 664 = .ok (.iconst 2, 1) := by decide +kernel
theorem dX5_isSame_665 : decode cX5_isSame 665 = .ok (.iaload, 1) := by decide +kernel
theorem dX5_isSame_666 : decode cX5_isSame 666 = .ok (.iconst 1, 1) := by decide +kernel
theorem dX5_isSame_667 : decode cX5_isSame 667 = .ok (.if_icmp .ne 7, 3) := by decide +kernel
theorem dX5_isSame_670 : decode cX5_isSame 670 = .ok (.iconst 1, 1) := by decide +kernel
theorem dX5_isSame_671 : decode cX5_isSame 671 = .ok (.goto 4, 3) := by decide +kernel
theorem dX5_isSame_674 : decode cX5_isSame 674 = .ok (.iconst 0, 1) := by decide +kernel
theorem dX5_isSame_675 : decode cX5_isSame 675 = .ok (.if_icmp .eq 5, 3) := by decide +kernel
theorem dX5_isSame_678 : decode cX5_isSame 678 = .ok (.iconst 0, 1) := by decide +kernel
theorem dX5_isSame_679 : decode cX5_isSame 679 = .ok (.ireturn, 1) := by decide +kernel
theorem dX5_isSame_680 : decode cX5_isSame 680 = .ok (.iinc 8 1, 3) := by decide +kernel
theorem dX5_isSame_683 : decode cX5_isSame 683 = .ok (.goto (-110), 3) := by decide +kernel
theorem dX5_isSame_686 : decode cX5_isSame 686 = .ok (.iconst (-1), 1) := by decide +kernel
theorem dX5_isSame_687 : decode cX5_isSame 687 = .ok (.istore 8, 2) := by decide +kernel
theorem dX5_isSame_689 : decode cX5_isSame 689 = .ok (.iconst (-1), 1) := by decide +kernel
theorem dX5_isSame_690 : decode cX5_isSame 690 = .ok (.istore 9, 2) := by decide +kernel
theorem dX5_isSame_692 : decode cX5_isSame 692 = .ok (.iconst 0, 1) := by decide +kernel
theorem dX5_isSame_693 : decode cX5_isSame 693 = .ok (.istore 10, 2) := by decide +kernel
theorem dX5_isSame_695 : decode cX5_isSame 695 = .ok (.iload 10, 2) := by decide +kernel
theorem dX5_isSame_697 : decode cX5_isSame 697 = .ok (.aload_n 0, 1) := by decide +kernel
theorem dX5_isSame_698 : decode cX5_isSame 698 = .ok (.getfield 30, 3) := by decide +kernel
theorem dX5_isSame_701 : decode cX5_isSame 701 = .ok (.arraylength, 1) := by decide +kernel
theorem dX5_isSame_702 : decode cX5_isSame 702 = .ok (.if_icmp .ge 147, 3) := by decide +kernel
theorem dX5_isSame_705 : decode cX5_isSame 705 = .ok (.iconst 0, 1) := by decide +kernel
theorem dX5_isSame_706 : decode cX5_isSame 706 = .ok (.istore 11, 2) := by decide +kernel
theorem dX5_isSame_708 : decode cX5_isSame 708 = .ok (.iconst (-1), 1) := by decide +kernel
theorem dX5_isSame_709 : decode cX5_isSame 709 = .ok (.istore 12, 2) := by decide +kernel
theorem dX5_isSame_711 : decode cX5_isSame 711 = .ok (.iconst 0, 1) := by decide +kernel
theorem dX5_isSame_712 : decode cX5_isSame 712 = .ok (.istore 13, 2) := by decide +kernel
theorem dX5_isSame_714 : decode cX5_isSame 714 = .ok (.iload 13, 2) := by decide +kernel
theorem dX5_isSame_716 : decode cX5_isSame 716 = .ok (.aload_n 0, 1) := by decide +kernel
theorem dX5_isSame_717 : decode cX5_isSame 717 = .ok (.getfield 33, 3) := by decide +kernel
theorem dX5_isSame_720 : decode cX5_isSame 720 = .ok (.arraylength, 1) := by decide +kernel
theorem dX5_isSame_721 : decode cX5_isSame 721 = .ok (.if_icmp .ge 83, 3) := by decide +kernel
theorem dX5_isSame_724 : decode cX5_isSame 724 = .ok (.aload_n 0, 1) := by decide +kernel
theorem dX5_isSame_725 : decode cX5_isSame 725 = .ok (.aload_n 0, 1) := by decide +kernel
theorem dX5_isSame_726 : decode cX5_isSame 726 = .ok (.getfield 30, 3) := by decide +kernel
theorem dX5_isSame_729 : decode cX5_isSame 729 = .ok (.iload 10, 2) := by decide +kernel
theorem dX5_isSame_731 : decode cX5_isSame 731 = .ok (.aaload, 1) := by decide +kernel
theorem dX5_isSame_732 : decode cX5_isSame 732 = .ok (.aload_n 0, 1) := by decide +kernel
theorem dX5_isSame_733 : decode cX5_isSame 733 = .ok (.getfield 33, 3) := by decide +kernel
theorem dX5_isSame_736 : decode cX5_isSame 736 = .ok (.iload 13, 2) := by decide +kernel
theorem dX5_isSame_738 : decode cX5_isSame 738 = .ok (.aaload, 1) := by decide +kernel
theorem dX5_isSame_739 : decode cX5_isSame 739 = .ok (.invokevirtual 170, 3) := by decide +kernel
theorem dX5_isSame_742 : decode cX5_isSame 742 = .ok (.istore 14, 2) := by decide +kernel
theorem dX5_isSame_744 : decode cX5_isSame 744 = .ok (.iload 11, 2) := by decide +kernel
theorem dX5_isSame_746 : decode cX5_isSame 746 = .ok (.iload 14, 2) := by decide +kernel
theorem dX5_isSame_748 : decode cX5_isSame 748 = .ok (.iadd, 1) := by decide +kernel
theorem dX5_isSame_749 : decode cX5_isSame 749 = .ok (.istore 11, 2) := by decide +kernel
theorem dX5_isSame_751 : decode cX5_isSame 751 = .ok (.iload 12, 2) := by decide +kernel
theorem dX5_isSame_753 : decode cX5_isSame 753 = .ok (.ifCond .lt 26, 3) := by decide +kernel
theorem dX5_isSame_756 : decode cX5_isSame 756 = .ok (.iload 14, 2) := by decide +kernel
theorem dX5_isSame_758 : decode cX5_isSame 758 = .ok (.aload_n 0, 1) := by decide +kernel
theorem dX5_isSame_759 : decode cX5_isSame 759 = .ok (.aload_n 0, 1) := by decide +kernel
theorem dX5_isSame_760 : decode cX5_isSame 760 = .ok (.getfield 30, 3) := by decide +kernel
theorem dX5_isSame_763 : decode cX5_isSame 763 = .ok (.iload 10, 2) := by decide +kernel
theorem dX5_isSame_765 : decode cX5_isSame 765 = .ok (.aaload, 1) := by decide +kernel
theorem dX5_isSame_766 : decode cX5_isSame 766 = .ok (.aload_n 0, 1) := by decide +kernel
theorem dX5_isSame_767 : decode cX5_isSame 767 = .ok (.getfield 33, 3) := by decide +kernel
theorem dX5_isSame_770 : decode cX5_isSame 770 = .ok (.iload 12, 2) := by decide +kernel
theorem dX5_isSame_772 : decode cX5_isSame 772 = .ok (.aaload, 1) := by decide +kernel
theorem dX5_isSame_773 : decode cX5_isSame 773 = .ok (.invokevirtual 170, 3) := by decide +kernel
theorem dX5_isSame_776 : decode cX5_isSame 776 = .ok (.if_icmp .le 7, 3) := by decide +kernel
theorem dX5_isSame_779 : decode cX5_isSame 779 = .ok (.iload 13, 2) := by decide +kernel
theorem dX5_isSame_781 : decode cX5_isSame 781 = .ok (.istore 12, 2) := by decide +kernel
theorem dX5_isSame_783 : decode cX5_isSame 783 = .ok (.aload_n 1, 1) := by decide +kernel
theorem dX5_isSame_784 : decode cX5_isSame 784 = .ok (.iload 10, 2) := by decide +kernel
theorem dX5_isSame_786 : decode cX5_isSame 786 = .ok (.iload 13, 2) := by decide +kernel
theorem dX5_isSame_788 : decode cX5_isSame 788 = .ok (.invokevirtual 174, 3) := by decide +kernel
theorem dX5_isSame_791 : decode cX5_isSame 791 = .ok (.iload 14, 2) := by decide +kernel
theorem dX5_isSame_793 : decode cX5_isSame 793 = .ok (.if_icmp .eq 5, 3) := by decide +kernel
theorem dX5_isSame_796 : decode cX5_isSame 796 = .ok (.iconst 0, 1) := by decide +kernel
theorem dX5_isSame_797 : decode cX5_isSame 797 = .ok (.ireturn, 1) := by decide +kernel
theorem dX5_isSame_798 : decode cX5_isSame 798 = .ok (.iinc 13 1, 3) := by decide +kernel
theorem dX5_isSame_801 : decode cX5_isSame 801 = .ok (.goto (-87), 3) := by decide +kernel
theorem dX5_isSame_804 : decode cX5_isSame 804 = .ok (.iload 11, 2) := by decide +kernel
theorem dX5_isSame_806 : decode cX5_isSame 806 = .ok (.iload 9, 2) := by decide +kernel
theorem dX5_isSame_808 : decode cX5_isSame 808 = .ok (.if_icmp .le 11, 3) := by decide +kernel
theorem dX5_isSame_811 : decode cX5_isSame 811 = .ok (.iload 11, 2) := by decide +kernel
theorem dX5_isSame_813 : decode cX5_isSame 813 = .ok (.istore 9, 2) := by decide +kernel
theorem dX5_isSame_815 : decode cX5_isSame 815 = .ok (.iload 10, 2) := by decide +kernel
theorem dX5_isSame_817 : decode cX5_isSame 817 = .ok (.istore 8, 2) := by decide +kernel
theorem dX5_isSame_819 : decode cX5_isSame 819 = .ok (.aload_n 1, 1) := by decide +kernel
theorem dX5_isSame_820 : decode cX5_isSame 820 = .ok (.iload 10, 2) := by decide +kernel
theorem dX5_isSame_822 : decode cX5_isSame 822 = .ok (.invokevirtual 176, 3) := by decide +kernel
theorem dX5_isSame_825 : decode cX5_isSame 825 = .ok (.iload 11, 2) := by decide +kernel
theorem dX5_isSame_827 : decode cX5_isSame 827 = .ok (.if_icmp .ne 14, 3) := by decide +kernel
theorem dX5_isSame_830 : decode cX5_isSame 830 = .ok (.aload_n 1, 1) := by decide +kernel
theorem dX5_isSame_831 : decode cX5_isSame 831 = .ok (.iload 10, 2) := by decide +kernel
theorem dX5_isSame_833 : decode cX5_isSame 833 = .ok (.invokevirtual 179, 3) := by decide +kernel
theorem dX5_isSame_836 : decode cX5_isSame 836 = .ok (.iload 12, 2) := by decide +kernel
theorem dX5_isSame_838 : decode cX5_isSame 838 = .ok (.if_icmp .eq 5, 3) := by decide +kernel
theorem dX5_isSame_841 : decode cX5_isSame 841 = .ok (.iconst 0, 1) := by decide +kernel
theorem dX5_isSame_842 : decode cX5_isSame 842 = .ok (.ireturn, 1) := by decide +kernel
theorem dX5_isSame_843 : decode cX5_isSame 843 = .ok (.iinc 10 1, 3) := by decide +kernel
theorem dX5_isSame_846 : decode cX5_isSame 846 = .ok (.goto (-151), 3) := by decide +kernel
theorem dX5_isSame_849 : decode cX5_isSame 849 = .ok (.aload_n 1, 1) := by decide +kernel
theorem dX5_isSame_850 : decode cX5_isSame 850 = .ok (.invokevirtual 182, 3) := by decide +kernel
theorem dX5_isSame_853 : decode cX5_isSame 853 = .ok (.iload 4, 2) := by decide +kernel
theorem dX5_isSame_855 : decode cX5_isSame 855 = .ok (.if_icmp .ne 73, 3) := by decide +kernel
theorem dX5_isSame_858 : decode cX5_isSame 858 = .ok (.aload_n 1, 1) := by decide +kernel
theorem dX5_isSame_859 : decode cX5_isSame 859 = .ok (.invokevirtual 185, 3) := by decide +kernel
theorem dX5_isSame_862 : decode cX5_isSame 862 = .ok (.iload 5, 2) := by decide +kernel
theorem dX5_isSame_864 : decode cX5_isSame 864 = .ok (.if_icmp .ne 64, 3) := by decide +kernel
theorem dX5_isSame_867 : decode cX5_isSame 867 = .ok (.aload_n 1, 1) := by decide +kernel
theorem dX5_isSame_868 : decode cX5_isSame 868 = .ok (.invokevirtual 188, 3) := by decide +kernel
theorem dX5_isSame_871 : decode cX5_isSame 871 = .ok (.iload 6, 2) := by decide +kernel
theorem dX5_isSame_873 : decode cX5_isSame 873 = .ok (.if_icmp .ne 55, 3) := by decide +kernel
theorem dX5_isSame_876 : decode cX5_isSame 876 = .ok (.aload_n 1, 1) := by decide +kernel
theorem dX5_isSame_877 : decode cX5_isSame 877 = .ok (.invokevirtual 191, 3) := by decide +kernel
theorem dX5_isSame_880 : decode cX5_isSame 880 = .ok (.iload 7, 2) := by decide +kernel
theorem dX5_isSame_882 : decode cX5_isSame 882 = .ok (.if_icmp .ne 46, 3) := by decide +kernel
theorem dX5_isSame_885 : decode cX5_isSame 885 = .ok (.aload_n 1, 1) := by decide +kernel
theorem dX5_isSame_886 : decode cX5_isSame 886 = .ok (.invokevirtual 194, 3) := by decide +kernel
theorem dX5_isSame_889 : decode cX5_isSame 889 = .ok (.iload 8, 2) := by decide +kernel
theorem dX5_isSame_891 : decode cX5_isSame 891 = .ok (.if_icmp .ne 37, 3) := by decide +kernel
theorem dX5_isSame_894 : decode cX5_isSame 894 = .ok (.aload_n 1, 1) := by decide +kernel
theorem dX5_isSame_895 : decode cX5_isSame 895 = .ok (.invokevirtual 197, 3) := by decide +kernel
theorem dX5_isSame_898 : decode cX5_isSame 898 = .ok (.aload_n 0, 1) := by decide +kernel
theorem dX5_isSame_899 : decode cX5_isSame 899 = .ok (.invokevirtual 114, 3) := by decide +kernel
theorem dX5_isSame_902 : decode cX5_isSame 902 = .ok (.ifCond .ne 7, 3) := by decide +kernel
theorem dX5_isSame_905 : decode cX5_isSame 905 = .ok (.dconst 0, 1) := by decide +kernel
theorem dX5_isSame_906 : decode cX5_isSame 906 = .ok (.goto 14, 3) := by decide +kernel
theorem dX5_isSame_909 : decode cX5_isSame 909 = .ok (.aload_n 0, 1) := by decide +kernel
theorem dX5_isSame_910 : decode cX5_isSame 910 = .ok (.invokevirtual 201, 3) := by decide +kernel
theorem dX5_isSame_913 : decode cX5_isSame 913 = .ok (.i2d, 1) := by decide +kernel
theorem dX5_isSame_914 : decode cX5_isSame 914 = .ok (.aload_n 0, 1) := by decide +kernel
theorem dX5_isSame_915 : decode cX5_isSame 915 = .ok (.invokevirtual 114, 3) := by decide +kernel
theorem dX5_isSame_918 : decode cX5_isSame 918 = .ok (.i2d, 1) := by decide +kernel
theorem dX5_isSame_919 : decode cX5_isSame 919 = .ok (.ddiv, 1) := by decide +kernel
theorem dX5_isSame_920 : decode cX5_isSame 920 = .ok (.dcmp .l, 1) := by decide +kernel
theorem dX5_isSame_921 : decode cX5_isSame 921 = .ok (.ifCond .ne 7, 3) := by decide +kernel
theorem dX5_isSame_924 : decode cX5_isSame 924 = .ok (.iconst 1, 1) := by decide +kernel
theorem dX5_isSame_925 : decode cX5_isSame 925 = .ok (.goto 4, 3) := by decide +kernel
theorem dX5_isSame_928 : decode cX5_isSame 928 = .ok (.iconst 0, 1) := by decide +kernel
theorem dX5_isSame_929 : decode cX5_isSame 929 = .ok (.ireturn, 1) := by decide +kernel
theorem dJ9_max_7cf53_0 : decode cJ9_max_7cf53 0 = .ok (.iload_n 0, 1) := by decide +kernel
theorem dJ9_max_7cf53_1 : decode cJ9_max_7cf53 1 = .ok (.iload_n 1, 1) := by decide +kernel
theorem dJ9_max_7cf53_2 : decode cJ9_max_7cf53 2 = .ok (.if_icmp .lt 7, 3) := by decide +kernel
theorem dJ9_max_7cf53_5 : decode cJ9_max_7cf53 5 = .ok (.iload_n 0, 1) := by decide +kernel
theorem dJ9_max_7cf53_6 : decode cJ9_max_7cf53 6 = .ok (.goto 4, 3) := by decide +kernel
theorem dJ9_max_7cf53_9 : decode cJ9_max_7cf53 9 = .ok (.iload_n 1, 1) := by decide +kernel
theorem dJ9_max_7cf53_10 : decode cJ9_max_7cf53 10 = .ok (.ireturn, 1) := by decide +kernel
theorem dJ9_min_7cf53_0 : decode cJ9_min_7cf53 0 = .ok (.iload_n 0, 1) := by decide +kernel
theorem dJ9_min_7cf53_1 : decode cJ9_min_7cf53 1 = .ok (.iload_n 1, 1) := by decide +kernel
theorem dJ9_min_7cf53_2 : decode cJ9_min_7cf53 2 = .ok (.if_icmp .gt 7, 3) := by decide +kernel
theorem dJ9_min_7cf53_5 : decode cJ9_min_7cf53 5 = .ok (.iload_n 0, 1) := by decide +kernel
theorem dJ9_min_7cf53_6 : decode cJ9_min_7cf53 6 = .ok (.goto 4, 3) := by decide +kernel
theorem dJ9_min_7cf53_9 : decode cJ9_min_7cf53 9 = .ok (.iload_n 1, 1) := by decide +kernel
theorem dJ9_min_7cf53_10 : decode cJ9_min_7cf53 10 = .ok (.ireturn, 1) := by decide +kernel
theorem dL_below_0 : decode cL_below 0 = .ok (.iload_n 0, 1) := by decide +kernel
theorem dL_below_1 : decode cL_below 1 = .ok (.ldc 7, 2) := by decide +kernel
theorem dL_below_3 : decode cL_below 3 = .ok (.iand, 1) := by decide +kernel
theorem dL_below_4 : decode cL_below 4 = .ok (.iload_n 1, 1) := by decide +kernel
theorem dL_below_5 : decode cL_below 5 = .ok (.irem, 1) := by decide +kernel
theorem dL_below_6 : decode cL_below 6 = .ok (.ireturn, 1) := by decide +kernel
theorem dL_cell_0 : decode cL_cell 0 = .ok (.iload_n 1, 1) := by decide +kernel
theorem dL_cell_1 : decode cL_cell 1 = .ok (.aload_n 0, 1) := by decide +kernel
theorem dL_cell_2 : decode cL_cell 2 = .ok (.arraylength, 1) := by decide +kernel
theorem dL_cell_3 : decode cL_cell 3 = .ok (.if_icmp .ge 9, 3) := by decide +kernel
theorem dL_cell_6 : decode cL_cell 6 = .ok (.aload_n 0, 1) := by decide +kernel
theorem dL_cell_7 : decode cL_cell 7 = .ok (.iload_n 1, 1) := by decide +kernel
theorem dL_cell_8 : decode cL_cell 8 = .ok (.iaload, 1) := by decide +kernel
theorem dL_cell_9 : decode cL_cell 9 = .ok (.goto 9, 3) := by decide +kernel
theorem dL_cell_12 : decode cL_cell 12 = .ok (.ldc 8, 2) := by decide +kernel
theorem dL_cell_14 : decode cL_cell 14 = .ok (.iload_n 1, 1) := by decide +kernel
theorem dL_cell_15 : decode cL_cell 15 = .ok (.iconst 3, 1) := by decide +kernel
theorem dL_cell_16 : decode cL_cell 16 = .ok (.iadd, 1) := by decide +kernel
theorem dL_cell_17 : decode cL_cell 17 = .ok (.imul, 1) := by decide +kernel
theorem dL_cell_18 : decode cL_cell 18 = .ok (.ireturn, 1) := by decide +kernel
theorem dL_act_0 : decode cL_act 0 = .ok (.aload_n 1, 1) := by decide +kernel
theorem dL_act_1 : decode cL_act 1 = .ok (.getfield 9, 3) := by decide +kernel
theorem dL_act_4 : decode cL_act 4 = .ok (.arraylength, 1) := by decide +kernel
theorem dL_act_5 : decode cL_act 5 = .ok (.istore_n 3, 1) := by decide +kernel
theorem dL_act_6 : decode cL_act 6 = .ok (.iload_n 2, 1) := by decide +kernel
theorem dL_act_7 : decode cL_act 7 = .ok (.iconst 1, 1) := by decide +kernel
theorem dL_act_8 : decode cL_act 8 = .ok (.ishr, 1) := by decide +kernel
theorem dL_act_9 : decode cL_act 9 = .ok (.iload_n 3, 1) := by decide +kernel
theorem dL_act_10 : decode cL_act 10 = .ok (.invokestatic 15, 3) := by decide +kernel
theorem dL_act_13 : decode cL_act 13 = .ok (.istore 4, 2) := by decide +kernel
theorem dL_act_15 : decode cL_act 15 = .ok (.iload_n 2, 1) := by decide +kernel
theorem dL_act_16 : decode cL_act 16 = .ok (.bipush 9, 2) := by decide +kernel
theorem dL_act_18 : decode cL_act 18 = .ok (.ishr, 1) := by decide +kernel
theorem dL_act_19 : decode cL_act 19 = .ok (.bipush 24, 2) := by decide +kernel
theorem dL_act_21 : decode cL_act 21 = .ok (.invokestatic 15, 3) := by decide +kernel
theorem dL_act_24 : decode cL_act 24 = .ok (.tableswitch 571 0 19 #[96, 147, 147, 199, 251, 251, 335, 420, 461, 461, 461, 461, 461, 461, 529, 529, 529, 529, 529, 529], 96) := by decide +kernel
theorem dL_act_120 : decode cL_act 120 = .ok (.iload_n 2, 1) := by decide +kernel
theorem dL_act_121 : decode cL_act 121 = .ok (.iconst 3, 1) := by decide +kernel
theorem dL_act_122 : decode cL_act 122 = .ok (.invokestatic 15, 3) := by decide +kernel
theorem dL_act_125 : decode cL_act 125 = .ok (.ifCond .le 5, 3) := by decide +kernel
theorem dL_act_128 : decode cL_act 128 = .ok (.iconst 1, 1) := by decide +kernel
theorem dL_act_129 : decode cL_act 129 = .ok (.ireturn, 1) := by decide +kernel
theorem dL_act_130 : decode cL_act 130 = .ok (.aload_n 1, 1) := by decide +kernel
theorem dL_act_131 : decode cL_act 131 = .ok (.iconst 2, 1) := by decide +kernel
theorem dL_act_132 : decode cL_act 132 = .ok (.iload_n 2, 1) := by decide +kernel
theorem dL_act_133 : decode cL_act 133 = .ok (.iconst 2, 1) := by decide +kernel
theorem dL_act_134 : decode cL_act 134 = .ok (.ishr, 1) := by decide +kernel
theorem dL_act_135 : decode cL_act 135 = .ok (.bipush 11, 2) := by decide +kernel
theorem dL_act_137 : decode cL_act 137 = .ok (.invokestatic 15, 3) := by decide +kernel
theorem dL_act_140 : decode cL_act 140 = .ok (.iadd, 1) := by decide +kernel
theorem dL_act_141 : decode cL_act 141 = .ok (.invokevirtual 21, 3) := by decide +kernel
theorem dL_act_144 : decode cL_act 144 = .ok (.aload_n 0, 1) := by decide +kernel
theorem dL_act_145 : decode cL_act 145 = .ok (.iconst 2, 1) := by decide +kernel
theorem dL_act_146 : decode cL_act 146 = .ok (.iload_n 2, 1) := by decide +kernel
theorem dL_act_147 : decode cL_act 147 = .ok (.iconst 2, 1) := by decide +kernel
theorem dL_act_148 : decode cL_act 148 = .ok (.ishr, 1) := by decide +kernel
theorem dL_act_149 : decode cL_act 149 = .ok (.bipush 11, 2) := by decide +kernel
theorem dL_act_151 : decode cL_act 151 = .ok (.invokestatic 15, 3) := by decide +kernel
theorem dL_act_154 : decode cL_act 154 = .ok (.iadd, 1) := by decide +kernel
theorem dL_act_155 : decode cL_act 155 = .ok (.invokevirtual 25, 3) := by decide +kernel
theorem dL_act_158 : decode cL_act 158 = .ok (.aload_n 1, 1) := by decide +kernel
theorem dL_act_159 : decode cL_act 159 = .ok (.invokevirtual 30, 3) := by decide +kernel
theorem dL_act_162 : decode cL_act 162 = .ok (.if_icmp .ne 7, 3) := by decide +kernel
theorem dL_act_165 : decode cL_act 165 = .ok (.iconst 1, 1) := by decide +kernel
theorem dL_act_166 : decode cL_act 166 = .ok (.goto 4, 3) := by decide +kernel
theorem dL_act_169 : decode cL_act 169 = .ok (.iconst 0, 1) := by decide +kernel
theorem dL_act_170 : decode cL_act 170 = .ok (.ireturn, 1) := by decide +kernel
theorem dL_act_171 : decode cL_act 171 = .ok (.iload_n 2, 1) := by decide +kernel
theorem dL_act_172 : decode cL_act 172 = .ok (.bipush 8, 2) := by decide +kernel
theorem dL_act_174 : decode cL_act 174 = .ok (.invokestatic 15, 3) := by decide +kernel
theorem dL_act_177 : decode cL_act 177 = .ok (.istore 5, 2) := by decide +kernel
theorem dL_act_179 : decode cL_act 179 = .ok (.aload_n 1, 1) := by decide +kernel
theorem dL_act_180 : decode cL_act 180 = .ok (.getfield 34, 3) := by decide +kernel
theorem dL_act_183 : decode cL_act 183 = .ok (.iload 5, 2) := by decide +kernel
theorem dL_act_185 : decode cL_act 185 = .ok (.aload_n 1, 1) := by decide +kernel
theorem dL_act_186 : decode cL_act 186 = .ok (.getfield 34, 3) := by decide +kernel
theorem dL_act_189 : decode cL_act 189 = .ok (.iload 5, 2) := by decide +kernel
theorem dL_act_191 : decode cL_act 191 = .ok (.baload, 1) := by decide +kernel
theorem dL_act_192 : decode cL_act 192 = .ok (.ifCond .ne 7, 3) := by decide +kernel
theorem dL_act_195 : decode cL_act 195 = .ok (.iconst 1, 1) := by decide +kernel
theorem dL_act_196 : decode cL_act 196 = .ok (.goto 4, 3) := by decide +kernel
theorem dL_act_199 : decode cL_act 199 = .ok (.iconst 0, 1) := by decide +kernel
theorem dL_act_200 : decode cL_act 200 = .ok (.bastore, 1) := by decide +kernel
theorem dL_act_201 : decode cL_act 201 = .ok (.aload_n 0, 1) := by decide +kernel
theorem dL_act_202 : decode cL_act 202 = .ok (.iload 5, 2) := by decide +kernel
theorem dL_act_204 : decode cL_act 204 = .ok (.invokevirtual 38, 3) := by decide +kernel
theorem dL_act_207 : decode cL_act 207 = .ok (.aload_n 1, 1) := by decide +kernel
theorem dL_act_208 : decode cL_act 208 = .ok (.getfield 34, 3) := by decide +kernel
theorem dL_act_211 : decode cL_act 211 = .ok (.iload 5, 2) := by decide +kernel
theorem dL_act_213 : decode cL_act 213 = .ok (.baload, 1) := by decide +kernel
theorem dL_act_214 : decode cL_act 214 = .ok (.if_icmp .ne 7, 3) := by decide +kernel
theorem dL_act_217 : decode cL_act 217 = .ok (.iconst 1, 1) := by decide +kernel
theorem dL_act_218 : decode cL_act 218 = .ok (.goto 4, 3) := by decide +kernel
theorem dL_act_221 : decode cL_act 221 = .ok (.iconst 0, 1) := by decide +kernel
theorem dL_act_222 : decode cL_act 222 = .ok (.ireturn, 1) := by decide +kernel
theorem dL_act_223 : decode cL_act 223 = .ok (.aload_n 1, 1) := by decide +kernel
theorem dL_act_224 : decode cL_act 224 = .ok (.getfield 42, 3) := by decide +kernel
theorem dL_act_227 : decode cL_act 227 = .ok (.istore 6, 2) := by decide +kernel
theorem dL_act_229 : decode cL_act 229 = .ok (.aload_n 1, 1) := by decide +kernel
theorem dL_act_230 : decode cL_act 230 = .ok (.iconst 1, 1) := by decide +kernel
theorem dL_act_231 : decode cL_act 231 = .ok (.iload_n 2, 1) := by decide +kernel
theorem dL_act_232 : decode cL_act 232 = .ok (.iconst 1, 1) := by decide +kernel
theorem dL_act_233 : decode cL_act 233 = .ok (.ishr, 1) := by decide +kernel
theorem dL_act_234 : decode cL_act 234 = .ok (.iload_n 2, 1) := by decide +kernel
theorem dL_act_235 : decode cL_act 235 = .ok (.iconst 2, 1) := by decide +kernel
theorem dL_act_236 : decode cL_act 236 = .ok (.invokestatic 15, 3) := by decide +kernel
theorem dL_act_239 : decode cL_act 239 = .ok (.ifCond .ne 8, 3) := by decide +kernel
theorem dL_act_242 : decode cL_act 242 = .ok (.bipush 99, 2) := by decide +kernel
theorem dL_act_244 : decode cL_act 244 = .ok (.goto 5, 3) := by decide +kernel
theorem dL_act_247 : decode cL_act 247 = .ok (.bipush 12, 2) := by decide +kernel
theorem dL_act_249 : decode cL_act 249 = .ok (.invokestatic 15, 3) := by decide +kernel
theorem dL_act_252 : decode cL_act 252 = .ok (.iadd, 1) := by decide +kernel
theorem dL_act_253 : decode cL_act 253 = .ok (.putfield 42, 3) := by decide +kernel
theorem dL_act_256 : decode cL_act 256 = .ok (.aload_n 0, 1) := by decide +kernel
theorem dL_act_257 : decode cL_act 257 = .ok (.aload_n 1, 1) := by decide +kernel
theorem dL_act_258 : decode cL_act 258 = .ok (.getfield 42, 3) := by decide +kernel
theorem dL_act_261 : decode cL_act 261 = .ok (.invokevirtual 46, 3) := by decide +kernel
theorem dL_act_264 : decode cL_act 264 = .ok (.iload 6, 2) := by decide +kernel
theorem dL_act_266 : decode cL_act 266 = .ok (.if_icmp .ne 7, 3) := by decide +kernel
theorem dL_act_269 : decode cL_act 269 = .ok (.iconst 1, 1) := by decide +kernel
theorem dL_act_270 : decode cL_act 270 = .ok (.goto 4, 3) := by decide +kernel
theorem dL_act_273 : decode cL_act 273 = .ok (.iconst 0, 1) := by decide +kernel
theorem dL_act_274 : decode cL_act 274 = .ok (.ireturn, 1) := by decide +kernel
theorem dL_act_275 : decode cL_act 275 = .ok (.aload_n 1, 1) := by decide +kernel
theorem dL_act_276 : decode cL_act 276 = .ok (.getfield 49, 3) := by decide +kernel
theorem dL_act_279 : decode cL_act 279 = .ok (.arraylength, 1) := by decide +kernel
theorem dL_act_280 : decode cL_act 280 = .ok (.bipush 8, 2) := by decide +kernel
theorem dL_act_282 : decode cL_act 282 = .ok (.if_icmp .ne 5, 3) := by decide +kernel
theorem dL_act_285 : decode cL_act 285 = .ok (.iconst 1, 1) := by decide +kernel
theorem dL_act_286 : decode cL_act 286 = .ok (.ireturn, 1) := by decide +kernel
theorem dL_act_287 : decode cL_act 287 = .ok (.iconst 3, 1) := by decide +kernel
theorem dL_act_288 : decode cL_act 288 = .ok (.newarray .int, 2) := by decide +kernel
theorem dL_act_290 : decode cL_act 290 = .ok (.dup, 1) := by decide +kernel
theorem dL_act_291 : decode cL_act 291 = .ok (.iconst 0, 1) := by decide +kernel
theorem dL_act_292 : decode cL_act 292 = .ok (.iload_n 2, 1) := by decide +kernel
theorem dL_act_293 : decode cL_act 293 = .ok (.bipush 8, 2) := by decide +kernel
theorem dL_act_295 : decode cL_act 295 = .ok (.invokestatic 15, 3) := by decide +kernel
theorem dL_act_298 : decode cL_act 298 = .ok (.iastore, 1) := by decide +kernel
theorem dL_act_299 : decode cL_act 299 = .ok (.dup, 1) := by decide +kernel
theorem dL_act_300 : decode cL_act 300 = .ok (.iconst 1, 1) := by decide +kernel
theorem dL_act_301 : decode cL_act 301 = .ok (.iconst 1, 1) := by decide +kernel
theorem dL_act_302 : decode cL_act 302 = .ok (.iload_n 2, 1) := by decide +kernel
theorem dL_act_303 : decode cL_act 303 = .ok (.iconst 3, 1) := by decide +kernel
theorem dL_act_304 : decode cL_act 304 = .ok (.ishr, 1) := by decide +kernel
theorem dL_act_305 : decode cL_act 305 = .ok (.bipush 20, 2) := by decide +kernel
theorem dL_act_307 : decode cL_act 307 = .ok (.invokestatic 15, 3) := by decide +kernel
theorem dL_act_310 : decode cL_act 310 = .ok (.iadd, 1) := by decide +kernel
theorem dL_act_311 : decode cL_act 311 = .ok (.iastore, 1) := by decide +kernel
theorem dL_act_312 : decode cL_act 312 = .ok (.dup, 1) := by decide +kernel
theorem dL_act_313 : decode cL_act 313 = .ok (.iconst 2, 1) := by decide +kernel
theorem dL_act_314 : decode cL_act 314 = .ok (.iconst 1, 1) := by decide +kernel
theorem dL_act_315 : decode cL_act 315 = .ok (.iastore, 1) := by decide +kernel
theorem dL_act_316 : decode cL_act 316 = .ok (.astore 7, 2) := by decide +kernel
theorem dL_act_318 : decode cL_act 318 = .ok (.aload_n 1, 1) := by decide +kernel
theorem dL_act_319 : decode cL_act 319 = .ok (.aload_n 1, 1) := by decide +kernel
theorem dL_act_320 : decode cL_act 320 = .ok (.getfield 49, 3) := by decide +kernel
theorem dL_act_323 : decode cL_act 323 = .ok (.aload 7, 2) := by decide +kernel
theorem dL_act_325 : decode cL_act 325 = .ok (.invokestatic 52, 3) := by decide +kernel
theorem dL_act_328 : decode cL_act 328 = .ok (.putfield 49, 3) := by decide +kernel
theorem dL_act_331 : decode cL_act 331 = .ok (.aload_n 0, 1) := by decide +kernel
theorem dL_act_332 : decode cL_act 332 = .ok (.aload 7, 2) := by decide +kernel
theorem dL_act_334 : decode cL_act 334 = .ok (.iconst 0, 1) := by decide +kernel
theorem dL_act_335 : decode cL_act 335 = .ok (.iaload, 1) := by decide +kernel
theorem dL_act_336 : decode cL_act 336 = .ok (.aload 7, 2) := by decide +kernel
theorem dL_act_338 : decode cL_act 338 = .ok (.iconst 1, 1) := by decide +kernel
theorem dL_act_339 : decode cL_act 339 = .ok (.iaload, 1) := by decide +kernel
theorem dL_act_340 : decode cL_act 340 = .ok (.invokevirtual 56, 3) := by decide +kernel
theorem dL_act_343 : decode cL_act 343 = .ok (.aload_n 1, 1) := by decide +kernel
theorem dL_act_344 : decode cL_act 344 = .ok (.getfield 49, 3) := by decide +kernel
theorem dL_act_347 : decode cL_act 347 = .ok (.arraylength, 1) := by decide +kernel
theorem dL_act_348 : decode cL_act 348 = .ok (.iconst 1, 1) := by decide +kernel
theorem dL_act_349 : decode cL_act 349 = .ok (.isub, 1) := by decide +kernel
theorem dL_act_350 : decode cL_act 350 = .ok (.if_icmp .ne 7, 3) := by decide +kernel
theorem dL_act_353 : decode cL_act 353 = .ok (.iconst 1, 1) := by decide +kernel
theorem dL_act_354 : decode cL_act 354 = .ok (.goto 4, 3) := by decide +kernel
theorem dL_act_357 : decode cL_act 357 = .ok (.iconst 0, 1) := by decide +kernel
theorem dL_act_358 : decode cL_act 358 = .ok (.ireturn, 1) := by decide +kernel
theorem dL_act_359 : decode cL_act 359 = .ok (.aload_n 1, 1) := by decide +kernel
theorem dL_act_360 : decode cL_act 360 = .ok (.getfield 59, 3) := by decide +kernel
theorem dL_act_363 : decode cL_act 363 = .ok (.arraylength, 1) := by decide +kernel
theorem dL_act_364 : decode cL_act 364 = .ok (.iconst 4, 1) := by decide +kernel
theorem dL_act_365 : decode cL_act 365 = .ok (.if_icmp .ne 5, 3) := by decide +kernel
theorem dL_act_368 : decode cL_act 368 = .ok (.iconst 1, 1) := by decide +kernel
theorem dL_act_369 : decode cL_act 369 = .ok (.ireturn, 1) := by decide +kernel
theorem dL_act_370 : decode cL_act 370 = .ok (.iload_n 2, 1) := by decide +kernel
theorem dL_act_371 : decode cL_act 371 = .ok (.bipush 8, 2) := by decide +kernel
theorem dL_act_373 : decode cL_act 373 = .ok (.invokestatic 15, 3) := by decide +kernel
theorem dL_act_376 : decode cL_act 376 = .ok (.istore 8, 2) := by decide +kernel
theorem dL_act_378 : decode cL_act 378 = .ok (.iload 8, 2) := by decide +kernel
theorem dL_act_380 : decode cL_act 380 = .ok (.iconst 1, 1) := by decide +kernel
theorem dL_act_381 : decode cL_act 381 = .ok (.iadd, 1) := by decide +kernel
theorem dL_act_382 : decode cL_act 382 = .ok (.iload_n 2, 1) := by decide +kernel
theorem dL_act_383 : decode cL_act 383 = .ok (.iconst 3, 1) := by decide +kernel
theorem dL_act_384 : decode cL_act 384 = .ok (.ishr, 1) := by decide +kernel
theorem dL_act_385 : decode cL_act 385 = .ok (.bipush 7, 2) := by decide +kernel
theorem dL_act_387 : decode cL_act 387 = .ok (.invokestatic 15, 3) := by decide +kernel
theorem dL_act_390 : decode cL_act 390 = .ok (.iadd, 1) := by decide +kernel
theorem dL_act_391 : decode cL_act 391 = .ok (.bipush 8, 2) := by decide +kernel
theorem dL_act_393 : decode cL_act 393 = .ok (.irem, 1) := by decide +kernel
theorem dL_act_394 : decode cL_act 394 = .ok (.istore 9, 2) := by decide +kernel
theorem dL_act_396 : decode cL_act 396 = .ok (.aload_n 1, 1) := by decide +kernel
theorem dL_act_397 : decode cL_act 397 = .ok (.aload_n 1, 1) := by decide +kernel
theorem dL_act_398 : decode cL_act 398 = .ok (.getfield 59, 3) := by decide +kernel
theorem dL_act_401 : decode cL_act 401 = .ok (.iconst 2, 1) := by decide +kernel
theorem dL_act_402 : decode cL_act 402 = .ok (.newarray .int, 2) := by decide +kernel
theorem dL_act_404 : decode cL_act 404 = .ok (.dup, 1) := by decide +kernel
theorem dL_act_405 : decode cL_act 405 = .ok (.iconst 0, 1) := by decide +kernel
theorem dL_act_406 : decode cL_act 406 = .ok (.iload 8, 2) := by decide +kernel
theorem dL_act_408 : decode cL_act 408 = .ok (.iastore, 1) := by decide +kernel
theorem dL_act_409 : decode cL_act 409 = .ok (.dup, 1) := by decide +kernel
theorem dL_act_410 : decode cL_act 410 = .ok (.iconst 1, 1) := by decide +kernel
theorem dL_act_411 : decode cL_act 411 = .ok (.iload 9, 2) := by decide +kernel
theorem dL_act_413 : decode cL_act 413 = .ok (.iastore, 1) := by decide +kernel
theorem dL_act_414 : decode cL_act 414 = .ok (.invokestatic 52, 3) := by decide +kernel
theorem dL_act_417 : decode cL_act 417 = .ok (.putfield 59, 3) := by decide +kernel
theorem dL_act_420 : decode cL_act 420 = .ok (.aload_n 0, 1) := by decide +kernel
theorem dL_act_421 : decode cL_act 421 = .ok (.iload 8, 2) := by decide +kernel
theorem dL_act_423 : decode cL_act 423 = .ok (.iload 9, 2) := by decide +kernel
theorem dL_act_425 : decode cL_act 425 = .ok (.invokevirtual 62, 3) := by decide +kernel
theorem dL_act_428 : decode cL_act 428 = .ok (.aload_n 1, 1) := by decide +kernel
theorem dL_act_429 : decode cL_act 429 = .ok (.getfield 59, 3) := by decide +kernel
theorem dL_act_432 : decode cL_act 432 = .ok (.arraylength, 1) := by decide +kernel
theorem dL_act_433 : decode cL_act 433 = .ok (.iconst 1, 1) := by decide +kernel
theorem dL_act_434 : decode cL_act 434 = .ok (.isub, 1) := by decide +kernel
theorem dL_act_435 : decode cL_act 435 = .ok (.if_icmp .ne 7, 3) := by decide +kernel
theorem dL_act_438 : decode cL_act 438 = .ok (.iconst 1, 1) := by decide +kernel
theorem dL_act_439 : decode cL_act 439 = .ok (.goto 4, 3) := by decide +kernel
theorem dL_act_442 : decode cL_act 442 = .ok (.iconst 0, 1) := by decide +kernel
theorem dL_act_443 : decode cL_act 443 = .ok (.ireturn, 1) := by decide +kernel
theorem dL_act_444 : decode cL_act 444 = .ok (.iload_n 2, 1) := by decide +kernel
theorem dL_act_445 : decode cL_act 445 = .ok (.iconst 3, 1) := by decide +kernel
theorem dL_act_446 : decode cL_act 446 = .ok (.invokestatic 15, 3) := by decide +kernel
theorem dL_act_449 : decode cL_act 449 = .ok (.ifCond .le 5, 3) := by decide +kernel
theorem dL_act_452 : decode cL_act 452 = .ok (.iconst 1, 1) := by decide +kernel
theorem dL_act_453 : decode cL_act 453 = .ok (.ireturn, 1) := by decide +kernel
theorem dL_act_454 : decode cL_act 454 = .ok (.aload_n 1, 1) := by decide +kernel
theorem dL_act_455 : decode cL_act 455 = .ok (.getfield 65, 3) := by decide +kernel
theorem dL_act_458 : decode cL_act 458 = .ok (.istore 10, 2) := by decide +kernel
theorem dL_act_460 : decode cL_act 460 = .ok (.aload_n 1, 1) := by decide +kernel
theorem dL_act_461 : decode cL_act 461 = .ok (.iconst 0, 1) := by decide +kernel
theorem dL_act_462 : decode cL_act 462 = .ok (.putfield 65, 3) := by decide +kernel
theorem dL_act_465 : decode cL_act 465 = .ok (.aload_n 1, 1) := by decide +kernel
theorem dL_act_466 : decode cL_act 466 = .ok (.iconst 0, 1) := by decide +kernel
theorem dL_act_467 : decode cL_act 467 = .ok (.putfield 68, 3) := by decide +kernel
theorem dL_act_470 : decode cL_act 470 = .ok (.aload_n 0, 1) := by decide +kernel
theorem dL_act_471 : decode cL_act 471 = .ok (.invokevirtual 71, 3) := by decide +kernel
theorem dL_act_474 : decode cL_act 474 = .ok (.iload 10, 2) := by decide +kernel
theorem dL_act_476 : decode cL_act 476 = .ok (.if_icmp .ne 7, 3) := by decide +kernel
theorem dL_act_479 : decode cL_act 479 = .ok (.iconst 1, 1) := by decide +kernel
theorem dL_act_480 : decode cL_act 480 = .ok (.goto 4, 3) := by decide +kernel
theorem dL_act_483 : decode cL_act 483 = .ok (.iconst 0, 1) := by decide +kernel
theorem dL_act_484 : decode cL_act 484 = .ok (.ireturn, 1) := by decide +kernel
theorem dL_act_485 : decode cL_act 485 = .ok (.aload_n 1, 1) := by decide +kernel
theorem dL_act_486 : decode cL_act 486 = .ok (.getfield 9, 3) := by decide +kernel
theorem dL_act_489 : decode cL_act 489 = .ok (.iload 4, 2) := by decide +kernel
theorem dL_act_491 : decode cL_act 491 = .ok (.aaload, 1) := by decide +kernel
theorem dL_act_492 : decode cL_act 492 = .ok (.arraylength, 1) := by decide +kernel
theorem dL_act_493 : decode cL_act 493 = .ok (.bipush 20, 2) := by decide +kernel
theorem dL_act_495 : decode cL_act 495 = .ok (.if_icmp .ne 5, 3) := by decide +kernel
theorem dL_act_498 : decode cL_act 498 = .ok (.iconst 1, 1) := by decide +kernel
theorem dL_act_499 : decode cL_act 499 = .ok (.ireturn, 1) := by decide +kernel
theorem dL_act_500 : decode cL_act 500 = .ok (.aload_n 0, 1) := by decide +kernel
theorem dL_act_501 : decode cL_act 501 = .ok (.iload 4, 2) := by decide +kernel
theorem dL_act_503 : decode cL_act 503 = .ok (.iload_n 2, 1) := by decide +kernel
theorem dL_act_504 : decode cL_act 504 = .ok (.iconst 3, 1) := by decide +kernel
theorem dL_act_505 : decode cL_act 505 = .ok (.ishr, 1) := by decide +kernel
theorem dL_act_506 : decode cL_act 506 = .ok (.bipush 8, 2) := by decide +kernel
theorem dL_act_508 : decode cL_act 508 = .ok (.invokestatic 15, 3) := by decide +kernel
theorem dL_act_511 : decode cL_act 511 = .ok (.iload_n 2, 1) := by decide +kernel
theorem dL_act_512 : decode cL_act 512 = .ok (.iconst 5, 1) := by decide +kernel
theorem dL_act_513 : decode cL_act 513 = .ok (.ishr, 1) := by decide +kernel
theorem dL_act_514 : decode cL_act 514 = .ok (.bipush 10, 2) := by decide +kernel
theorem dL_act_516 : decode cL_act 516 = .ok (.invokestatic 15, 3) := by decide +kernel
theorem dL_act_519 : decode cL_act 519 = .ok (.invokevirtual 74, 3) := by decide +kernel
theorem dL_act_522 : decode cL_act 522 = .ok (.aload_n 1, 1) := by decide +kernel
theorem dL_act_523 : decode cL_act 523 = .ok (.iload 4, 2) := by decide +kernel
theorem dL_act_525 : decode cL_act 525 = .ok (.iload_n 2, 1) := by decide +kernel
theorem dL_act_526 : decode cL_act 526 = .ok (.iconst 3, 1) := by decide +kernel
theorem dL_act_527 : decode cL_act 527 = .ok (.ishr, 1) := by decide +kernel
theorem dL_act_528 : decode cL_act 528 = .ok (.bipush 8, 2) := by decide +kernel
theorem dL_act_530 : decode cL_act 530 = .ok (.invokestatic 15, 3) := by decide +kernel
theorem dL_act_533 : decode cL_act 533 = .ok (.iload_n 2, 1) := by decide +kernel
theorem dL_act_534 : decode cL_act 534 = .ok (.iconst 5, 1) := by decide +kernel
theorem dL_act_535 : decode cL_act 535 = .ok (.ishr, 1) := by decide +kernel
theorem dL_act_536 : decode cL_act 536 = .ok (.bipush 10, 2) := by decide +kernel
theorem dL_act_538 : decode cL_act 538 = .ok (.invokestatic 15, 3) := by decide +kernel
theorem dL_act_541 : decode cL_act 541 = .ok (.invokevirtual 78, 3) := by decide +kernel
theorem dL_act_544 : decode cL_act 544 = .ok (.if_icmp .ne 7, 3) := by decide +kernel
theorem dL_act_547 : decode cL_act 547 = .ok (.iconst 1, 1) := by decide +kernel
theorem dL_act_548 : decode cL_act 548 = .ok (.goto 4, 3) := by decide +kernel
theorem dL_act_551 : decode cL_act 551 = .ok (.iconst 0, 1) := by decide +kernel
theorem dL_act_552 : decode cL_act 552 = .ok (.ireturn, 1) := by decide +kernel
theorem dL_act_553 : decode cL_act 553 = .ok (.aload_n 1, 1) := by decide +kernel
theorem dL_act_554 : decode cL_act 554 = .ok (.getfield 81, 3) := by decide +kernel
theorem dL_act_557 : decode cL_act 557 = .ok (.iload 4, 2) := by decide +kernel
theorem dL_act_559 : decode cL_act 559 = .ok (.baload, 1) := by decide +kernel
theorem dL_act_560 : decode cL_act 560 = .ok (.ifCond .ne 7, 3) := by decide +kernel
theorem dL_act_563 : decode cL_act 563 = .ok (.iconst 1, 1) := by decide +kernel
theorem dL_act_564 : decode cL_act 564 = .ok (.goto 4, 3) := by decide +kernel
theorem dL_act_567 : decode cL_act 567 = .ok (.iconst 0, 1) := by decide +kernel
theorem dL_act_568 : decode cL_act 568 = .ok (.istore 11, 2) := by decide +kernel
theorem dL_act_570 : decode cL_act 570 = .ok (.aload_n 1, 1) := by decide +kernel
theorem dL_act_571 : decode cL_act 571 = .ok (.getfield 81, 3) := by decide +kernel
theorem dL_act_574 : decode cL_act 574 = .ok (.iload 4, 2) := by decide +kernel
theorem dL_act_576 : decode cL_act 576 = .ok (.iconst 1, 1) := by decide +kernel
theorem dL_act_577 : decode cL_act 577 = .ok (.bastore, 1) := by decide +kernel
theorem dL_act_578 : decode cL_act 578 = .ok (.aload_n 0, 1) := by decide +kernel
theorem dL_act_579 : decode cL_act 579 = .ok (.iload 4, 2) := by decide +kernel
theorem dL_act_581 : decode cL_act 581 = .ok (.invokevirtual 84, 3) := by decide +kernel
theorem dL_act_584 : decode cL_act 584 = .ok (.iload 11, 2) := by decide +kernel
theorem dL_act_586 : decode cL_act 586 = .ok (.if_icmp .ne 7, 3) := by decide +kernel
theorem dL_act_589 : decode cL_act 589 = .ok (.iconst 1, 1) := by decide +kernel
theorem dL_act_590 : decode cL_act 590 = .ok (.goto 4, 3) := by decide +kernel
theorem dL_act_593 : decode cL_act 593 = .ok (.iconst 0, 1) := by decide +kernel
theorem dL_act_594 : decode cL_act 594 = .ok (.ireturn, 1) := by decide +kernel
theorem dL_act_595 : decode cL_act 595 = .ok (.iconst 1, 1) := by decide +kernel
theorem dL_act_596 : decode cL_act 596 = .ok (.iload_n 2, 1) := by decide +kernel
theorem dL_act_597 : decode cL_act 597 = .ok (.iconst 2, 1) := by decide +kernel
theorem dL_act_598 : decode cL_act 598 = .ok (.ishr, 1) := by decide +kernel
theorem dL_act_599 : decode cL_act 599 = .ok (.iload_n 2, 1) := by decide +kernel
theorem dL_act_600 : decode cL_act 600 = .ok (.bipush 9, 2) := by decide +kernel
theorem dL_act_602 : decode cL_act 602 = .ok (.invokestatic 15, 3) := by decide +kernel
theorem dL_act_605 : decode cL_act 605 = .ok (.ifCond .ne 8, 3) := by decide +kernel
theorem dL_act_608 : decode cL_act 608 = .ok (.bipush 60, 2) := by decide +kernel
theorem dL_act_610 : decode cL_act 610 = .ok (.goto 4, 3) := by decide +kernel
theorem dL_act_613 : decode cL_act 613 = .ok (.iconst 5, 1) := by decide +kernel
theorem dL_act_614 : decode cL_act 614 = .ok (.invokestatic 15, 3) := by decide +kernel
theorem dL_act_617 : decode cL_act 617 = .ok (.iadd, 1) := by decide +kernel
theorem dL_act_618 : decode cL_act 618 = .ok (.istore 12, 2) := by decide +kernel
theorem dL_act_620 : decode cL_act 620 = .ok (.aload_n 0, 1) := by decide +kernel
theorem dL_act_621 : decode cL_act 621 = .ok (.iload 12, 2) := by decide +kernel
theorem dL_act_623 : decode cL_act 623 = .ok (.invokevirtual 87, 3) := by decide +kernel
theorem dL_act_626 : decode cL_act 626 = .ok (.aload_n 1, 1) := by decide +kernel
theorem dL_act_627 : decode cL_act 627 = .ok (.iload 12, 2) := by decide +kernel
theorem dL_act_629 : decode cL_act 629 = .ok (.invokevirtual 90, 3) := by decide +kernel
theorem dL_act_632 : decode cL_act 632 = .ok (.if_icmp .ne 7, 3) := by decide +kernel
theorem dL_act_635 : decode cL_act 635 = .ok (.iconst 1, 1) := by decide +kernel
theorem dL_act_636 : decode cL_act 636 = .ok (.goto 4, 3) := by decide +kernel
theorem dL_act_639 : decode cL_act 639 = .ok (.iconst 0, 1) := by decide +kernel
theorem dL_act_640 : decode cL_act 640 = .ok (.ireturn, 1) := by decide +kernel
theorem dL_build_0 : decode cL_build 0 = .ok (.new 10, 3) := by decide +kernel
theorem dL_build_3 : decode cL_build 3 = .ok (.dup, 1) := by decide +kernel
theorem dL_build_4 : decode cL_build 4 = .ok (.invokespecial 93, 3) := by decide +kernel
theorem dL_build_7 : decode cL_build 7 = .ok (.astore_n 2, 1) := by decide +kernel
theorem dL_build_8 : decode cL_build 8 = .ok (.bipush 14, 2) := by decide +kernel
theorem dL_build_10 : decode cL_build 10 = .ok (.aload_n 1, 1) := by decide +kernel
theorem dL_build_11 : decode cL_build 11 = .ok (.iconst 0, 1) := by decide +kernel
theorem dL_build_12 : decode cL_build 12 = .ok (.invokestatic 94, 3) := by decide +kernel
theorem dL_build_15 : decode cL_build 15 = .ok (.bipush 60, 2) := by decide +kernel
theorem dL_build_17 : decode cL_build 17 = .ok (.invokestatic 15, 3) := by decide +kernel
theorem dL_build_20 : decode cL_build 20 = .ok (.iadd, 1) := by decide +kernel
theorem dL_build_21 : decode cL_build 21 = .ok (.istore_n 3, 1) := by decide +kernel
theorem dL_build_22 : decode cL_build 22 = .ok (.iconst 0, 1) := by decide +kernel
theorem dL_build_23 : decode cL_build 23 = .ok (.istore 4, 2) := by decide +kernel
theorem dL_build_25 : decode cL_build 25 = .ok (.iload 4, 2) := by decide +kernel
theorem dL_build_27 : decode cL_build 27 = .ok (.iload_n 3, 1) := by decide +kernel
theorem dL_build_28 : decode cL_build 28 = .ok (.if_icmp .ge 43, 3) := by decide +kernel
theorem dL_build_31 : decode cL_build 31 = .ok (.aload_n 0, 1) := by decide +kernel
theorem dL_build_32 : decode cL_build 32 = .ok (.aload_n 2, 1) := by decide +kernel
theorem dL_build_33 : decode cL_build 33 = .ok (.aload_n 1, 1) := by decide +kernel
theorem dL_build_34 : decode cL_build 34 = .ok (.iload 4, 2) := by decide +kernel
theorem dL_build_36 : decode cL_build 36 = .ok (.bipush 16, 2) := by decide +kernel
theorem dL_build_38 : decode cL_build 38 = .ok (.irem, 1) := by decide +kernel
theorem dL_build_39 : decode cL_build 39 = .ok (.invokestatic 94, 3) := by decide +kernel
theorem dL_build_42 : decode cL_build 42 = .ok (.iload 4, 2) := by decide +kernel
theorem dL_build_44 : decode cL_build 44 = .ok (.bipush 16, 2) := by decide +kernel
theorem dL_build_46 : decode cL_build 46 = .ok (.idiv, 1) := by decide +kernel
theorem dL_build_47 : decode cL_build 47 = .ok (.iconst 3, 1) := by decide +kernel
theorem dL_build_48 : decode cL_build 48 = .ok (.imul, 1) := by decide +kernel
theorem dL_build_49 : decode cL_build 49 = .ok (.ishr, 1) := by decide +kernel
theorem dL_build_50 : decode cL_build 50 = .ok (.sipush 743, 3) := by decide +kernel
theorem dL_build_53 : decode cL_build 53 = .ok (.iload 4, 2) := by decide +kernel
theorem dL_build_55 : decode cL_build 55 = .ok (.imul, 1) := by decide +kernel
theorem dL_build_56 : decode cL_build 56 = .ok (.iadd, 1) := by decide +kernel
theorem dL_build_57 : decode cL_build 57 = .ok (.invokestatic 98, 3) := by decide +kernel
theorem dL_build_60 : decode cL_build 60 = .ok (.ifCond .ne 5, 3) := by decide +kernel
theorem dL_build_63 : decode cL_build 63 = .ok (.aconst_null, 1) := by decide +kernel
theorem dL_build_64 : decode cL_build 64 = .ok (.areturn, 1) := by decide +kernel
theorem dL_build_65 : decode cL_build 65 = .ok (.iinc 4 1, 3) := by decide +kernel
theorem dL_build_68 : decode cL_build 68 = .ok (.goto (-43), 3) := by decide +kernel
theorem dL_build_71 : decode cL_build 71 = .ok (.aload_n 2, 1) := by decide +kernel
theorem dL_build_72 : decode cL_build 72 = .ok (.areturn, 1) := by decide +kernel
theorem dL_law_0 : decode cL_law 0 = .ok (.new 26, 3) := by decide +kernel
theorem dL_law_3 : decode cL_law 3 = .ok (.dup, 1) := by decide +kernel
theorem dL_law_4 : decode cL_law 4 = .ok (.invokespecial 102, 3) := by decide +kernel
theorem dL_law_7 : decode cL_law 7 = .ok (.astore_n 1, 1) := by decide +kernel
theorem dL_law_8 : decode cL_law 8 = .ok (.aload_n 1, 1) := by decide +kernel
theorem dL_law_9 : decode cL_law 9 = .ok (.aload_n 0, 1) := by decide +kernel
theorem dL_law_10 : decode cL_law 10 = .ok (.invokestatic 103, 3) := by decide +kernel
theorem dL_law_13 : decode cL_law 13 = .ok (.astore_n 2, 1) := by decide +kernel
theorem dL_law_14 : decode cL_law 14 = .ok (.aload_n 2, 1) := by decide +kernel
theorem dL_law_15 : decode cL_law 15 = .ok (.ifnonnull 5, 3) := by decide +kernel
theorem dL_law_18 : decode cL_law 18 = .ok (.iconst 0, 1) := by decide +kernel
theorem dL_law_19 : decode cL_law 19 = .ok (.ireturn, 1) := by decide +kernel
theorem dL_law_20 : decode cL_law 20 = .ok (.iconst 0, 1) := by decide +kernel
theorem dL_law_21 : decode cL_law 21 = .ok (.istore_n 3, 1) := by decide +kernel
theorem dL_law_22 : decode cL_law 22 = .ok (.iload_n 3, 1) := by decide +kernel
theorem dL_law_23 : decode cL_law 23 = .ok (.bipush 30, 2) := by decide +kernel
theorem dL_law_25 : decode cL_law 25 = .ok (.if_icmp .ge 1376, 3) := by decide +kernel
theorem dL_law_28 : decode cL_law 28 = .ok (.aload_n 0, 1) := by decide +kernel
theorem dL_law_29 : decode cL_law 29 = .ok (.iload_n 3, 1) := by decide +kernel
theorem dL_law_30 : decode cL_law 30 = .ok (.bipush 16, 2) := by decide +kernel
theorem dL_law_32 : decode cL_law 32 = .ok (.irem, 1) := by decide +kernel
theorem dL_law_33 : decode cL_law 33 = .ok (.invokestatic 94, 3) := by decide +kernel
theorem dL_law_36 : decode cL_law 36 = .ok (.iload_n 3, 1) := by decide +kernel
theorem dL_law_37 : decode cL_law 37 = .ok (.bipush 16, 2) := by decide +kernel
theorem dL_law_39 : decode cL_law 39 = .ok (.idiv, 1) := by decide +kernel
theorem dL_law_40 : decode cL_law 40 = .ok (.iconst 3, 1) := by decide +kernel
theorem dL_law_41 : decode cL_law 41 = .ok (.imul, 1) := by decide +kernel
theorem dL_law_42 : decode cL_law 42 = .ok (.ishr, 1) := by decide +kernel
theorem dL_law_43 : decode cL_law 43 = .ok (.sipush 743, 3) := by decide +kernel
theorem dL_law_46 : decode cL_law 46 = .ok (.iload_n 3, 1) := by decide +kernel
theorem dL_law_47 : decode cL_law 47 = .ok (.imul, 1) := by decide +kernel
theorem dL_law_48 : decode cL_law 48 = .ok (.iadd, 1) := by decide +kernel
theorem dL_law_49 : decode cL_law 49 = .ok (.istore 4, 2) := by decide +kernel
theorem dL_law_51 : decode cL_law 51 = .ok (.aload_n 1, 1) := by decide +kernel
theorem dL_law_52 : decode cL_law 52 = .ok (.aload_n 2, 1) := by decide +kernel
theorem dL_law_53 : decode cL_law 53 = .ok (.iload 4, 2) := by decide +kernel
theorem dL_law_55 : decode cL_law 55 = .ok (.invokestatic 98, 3) := by decide +kernel
theorem dL_law_58 : decode cL_law 58 = .ok (.ifCond .ne 5, 3) := by decide +kernel
theorem dL_law_61 : decode cL_law 61 = .ok (.iconst 0, 1) := by decide +kernel
theorem dL_law_62 : decode cL_law 62 = .ok (.ireturn, 1) := by decide +kernel
theorem dL_law_63 : decode cL_law 63 = .ok (.aload_n 1, 1) := by decide +kernel
theorem dL_law_64 : decode cL_law 64 = .ok (.invokevirtual 107, 3) := by decide +kernel
theorem dL_law_67 : decode cL_law 67 = .ok (.istore 5, 2) := by decide +kernel
theorem dL_law_69 : decode cL_law 69 = .ok (.aload_n 1, 1) := by decide +kernel
theorem dL_law_70 : decode cL_law 70 = .ok (.invokevirtual 110, 3) := by decide +kernel
theorem dL_law_73 : decode cL_law 73 = .ok (.istore 6, 2) := by decide +kernel
theorem dL_law_75 : decode cL_law 75 = .ok (.iconst 0, 1) := by decide +kernel
theorem dL_law_76 : decode cL_law 76 = .ok (.istore 7, 2) := by decide +kernel
theorem dL_law_78 : decode cL_law 78 = .ok (.iconst 0, 1) := by decide +kernel
theorem dL_law_79 : decode cL_law 79 = .ok (.istore 8, 2) := by decide +kernel
theorem dL_law_81 : decode cL_law 81 = .ok (.iconst 0, 1) := by decide +kernel
theorem dL_law_82 : decode cL_law 82 = .ok (.istore 9, 2) := by decide +kernel
theorem dL_law_84 : decode cL_law 84 = .ok (.iload 5, 2) := by decide +kernel
theorem dL_law_86 : decode cL_law 86 = .ok (.newarray .int, 2) := by decide +kernel
theorem dL_law_88 : decode cL_law 88 = .ok (.astore 10, 2) := by decide +kernel
theorem dL_law_90 : decode cL_law 90 = .ok (.iload 5, 2) := by decide +kernel
theorem dL_law_92 : decode cL_law 92 = .ok (.newarray .boolean, 2) := by decide +kernel
theorem dL_law_94 : decode cL_law 94 = .ok (.astore 11, 2) := by decide +kernel
theorem dL_law_96 : decode cL_law 96 = .ok (.iconst 0, 1) := by decide +kernel
theorem dL_law_97 : decode cL_law 97 = .ok (.istore 12, 2) := by decide +kernel
theorem dL_law_99 : decode cL_law 99 = .ok (.iload 12, 2) := by decide +kernel
theorem dL_law_101 : decode cL_law 101 = .ok (.iload 5, 2) := by decide +kernel
theorem dL_law_103 : decode cL_law 103 = .ok (.if_icmp .ge 144, 3) := by decide +kernel
theorem dL_law_106 : decode cL_law 106 = .ok (.aload_n 1, 1) := by decide +kernel
theorem dL_law_107 : decode cL_law 107 = .ok (.iload 12, 2) := by decide +kernel
theorem dL_law_109 : decode cL_law 109 = .ok (.invokevirtual 113, 3) := by decide +kernel
theorem dL_law_112 : decode cL_law 112 = .ok (.istore 13, 2) := by decide +kernel
theorem dL_law_114 : decode cL_law 114 = .ok (.aload 10, 2) := by decide +kernel
theorem dL_law_116 : decode cL_law 116 = .ok (.iload 12, 2) := by decide +kernel
theorem dL_law_118 : decode cL_law 118 = .ok (.aload_n 1, 1) := by decide +kernel
theorem dL_law_119 : decode cL_law 119 = .ok (.iload 12, 2) := by decide +kernel
theorem dL_law_121 : decode cL_law 121 = .ok (.invokevirtual 116, 3) := by decide +kernel
theorem dL_law_124 : decode cL_law 124 = .ok (.iastore, 1) := by decide +kernel
theorem dL_law_125 : decode cL_law 125 = .ok (.aload 11, 2) := by decide +kernel
theorem dL_law_127 : decode cL_law 127 = .ok (.iload 12, 2) := by decide +kernel
theorem dL_law_129 : decode cL_law 129 = .ok (.aload_n 1, 1) := by decide +kernel
theorem dL_law_130 : decode cL_law 130 = .ok (.iload 12, 2) := by decide +kernel
theorem dL_law_132 : decode cL_law 132 = .ok (.invokevirtual 119, 3) := by decide +kernel
theorem dL_law_135 : decode cL_law 135 = .ok (.bastore, 1) := by decide +kernel
theorem dL_law_136 : decode cL_law 136 = .ok (.iload 7, 2) := by decide +kernel
theorem dL_law_138 : decode cL_law 138 = .ok (.aload 11, 2) := by decide +kernel
theorem dL_law_140 : decode cL_law 140 = .ok (.iload 12, 2) := by decide +kernel
theorem dL_law_142 : decode cL_law 142 = .ok (.baload, 1) := by decide +kernel
theorem dL_law_143 : decode cL_law 143 = .ok (.ifCond .eq 7, 3) := by decide +kernel
theorem dL_law_146 : decode cL_law 146 = .ok (.iconst 1, 1) := by decide +kernel
theorem dL_law_147 : decode cL_law 147 = .ok (.goto 4, 3) := by decide +kernel
theorem dL_law_150 : decode cL_law 150 = .ok (.iconst 0, 1) := by decide +kernel
theorem dL_law_151 : decode cL_law 151 = .ok (.iadd, 1) := by decide +kernel
theorem dL_law_152 : decode cL_law 152 = .ok (.istore 7, 2) := by decide +kernel
theorem dL_law_154 : decode cL_law 154 = .ok (.iload 8, 2) := by decide +kernel
theorem dL_law_156 : decode cL_law 156 = .ok (.iload 13, 2) := by decide +kernel
theorem dL_law_158 : decode cL_law 158 = .ok (.iadd, 1) := by decide +kernel
theorem dL_law_159 : decode cL_law 159 = .ok (.istore 8, 2) := by decide +kernel
theorem dL_law_161 : decode cL_law 161 = .ok (.iload 9, 2) := by decide +kernel
theorem dL_law_163 : decode cL_law 163 = .ok (.aload 10, 2) := by decide +kernel
theorem dL_law_165 : decode cL_law 165 = .ok (.iload 12, 2) := by decide +kernel
theorem dL_law_167 : decode cL_law 167 = .ok (.iaload, 1) := by decide +kernel
theorem dL_law_168 : decode cL_law 168 = .ok (.ifCond .ge 8, 3) := by decide +kernel
theorem dL_law_171 : decode cL_law 171 = .ok (.iload 13, 2) := by decide +kernel
theorem dL_law_173 : decode cL_law 173 = .ok (.goto 8, 3) := by decide +kernel
theorem dL_law_176 : decode cL_law 176 = .ok (.aload 10, 2) := by decide +kernel
theorem dL_law_178 : decode cL_law 178 = .ok (.iload 12, 2) := by decide +kernel
theorem dL_law_180 : decode cL_law 180 = .ok (.iaload, 1) := by decide +kernel
theorem dL_law_181 : decode cL_law 181 = .ok (.iadd, 1) := by decide +kernel
theorem dL_law_182 : decode cL_law 182 = .ok (.istore 9, 2) := by decide +kernel
theorem dL_law_184 : decode cL_law 184 = .ok (.aload 10, 2) := by decide +kernel
theorem dL_law_186 : decode cL_law 186 = .ok (.iload 12, 2) := by decide +kernel
theorem dL_law_188 : decode cL_law 188 = .ok (.iaload, 1) := by decide +kernel
theorem dL_law_189 : decode cL_law 189 = .ok (.iconst (-1), 1) := by decide +kernel
theorem dL_law_190 : decode cL_law 190 = .ok (.if_icmp .lt 49, 3) := by decide +kernel
theorem dL_law_193 : decode cL_law 193 = .ok (.aload 10, 2) := by decide +kernel
theorem dL_law_195 : decode cL_law 195 = .ok (.iload 12, 2) := by decide +kernel
theorem dL_law_197 : decode cL_law 197 = .ok (.iaload, 1) := by decide +kernel
theorem dL_law_198 : decode cL_law 198 = .ok (.iload 13, 2) := by decide +kernel
theorem dL_law_200 : decode cL_law 200 = .ok (.if_icmp .ge 39, 3) := by decide +kernel
theorem dL_law_203 : decode cL_law 203 = .ok (.aload_n 1, 1) := by decide +kernel
theorem dL_law_204 : decode cL_law 204 = .ok (.iload 12, 2) := by decide +kernel
theorem dL_law_206 : decode cL_law 206 = .ok (.invokevirtual 122, 3) := by decide +kernel
theorem dL_law_209 : decode cL_law 209 = .ok (.ifCond .lt 30, 3) := by decide +kernel
theorem dL_law_212 : decode cL_law 212 = .ok (.aload_n 1, 1) := by decide +kernel
theorem dL_law_213 : decode cL_law 213 = .ok (.iload 12, 2) := by decide +kernel
theorem dL_law_215 : decode cL_law 215 = .ok (.invokevirtual 122, 3) := by decide +kernel
theorem dL_law_218 : decode cL_law 218 = .ok (.aload 10, 2) := by decide +kernel
theorem dL_law_220 : decode cL_law 220 = .ok (.iload 12, 2) := by decide +kernel
theorem dL_law_222 : decode cL_law 222 = .ok (.iaload, 1) := by decide +kernel
theorem dL_law_223 : decode cL_law 223 = .ok (.ifCond .ge 8, 3) := by decide +kernel
theorem dL_law_226 : decode cL_law 226 = .ok (.iload 13, 2) := by decide +kernel
theorem dL_law_228 : decode cL_law 228 = .ok (.goto 8, 3) := by decide +kernel
theorem dL_law_231 : decode cL_law 231 = .ok (.aload 10, 2) := by decide +kernel
theorem dL_law_233 : decode cL_law 233 = .ok (.iload 12, 2) := by decide +kernel
theorem dL_law_235 : decode cL_law 235 = .ok (.iaload, 1) := by decide +kernel
theorem dL_law_236 : decode cL_law 236 = .ok (.if_icmp .le 5, 3) := by decide +kernel
theorem dL_law_239 : decode cL_law 239 = .ok (.iconst 0, 1) := by decide +kernel
theorem dL_law_240 : decode cL_law 240 = .ok (.ireturn, 1) := by decide +kernel
theorem dL_law_241 : decode cL_law 241 = .ok (.iinc 12 1, 3) := by decide +kernel
theorem dL_law_244 : decode cL_law 244 = .ok (.goto (-145), 3) := by decide +kernel
theorem dL_law_247 : decode cL_law 247 = .ok (.iconst 0, 1) := by decide +kernel
theorem dL_law_248 : decode cL_law 248 = .ok (.istore 12, 2) := by decide +kernel
theorem dL_law_250 : decode cL_law 250 = .ok (.iconst 0, 1) := by decide +kernel
theorem dL_law_251 : decode cL_law 251 = .ok (.istore 13, 2) := by decide +kernel
theorem dL_law_253 : decode cL_law 253 = .ok (.iload 13, 2) := by decide +kernel
theorem dL_law_255 : decode cL_law 255 = .ok (.bipush 8, 2) := by decide +kernel
theorem dL_law_257 : decode cL_law 257 = .ok (.if_icmp .ge 20, 3) := by decide +kernel
theorem dL_law_260 : decode cL_law 260 = .ok (.iload 12, 2) := by decide +kernel
theorem dL_law_262 : decode cL_law 262 = .ok (.aload_n 1, 1) := by decide +kernel
theorem dL_law_263 : decode cL_law 263 = .ok (.iload 13, 2) := by decide +kernel
theorem dL_law_265 : decode cL_law 265 = .ok (.invokevirtual 125, 3) := by decide +kernel
theorem dL_law_268 : decode cL_law 268 = .ok (.iadd, 1) := by decide +kernel
theorem dL_law_269 : decode cL_law 269 = .ok (.istore 12, 2) := by decide +kernel
theorem dL_law_271 : decode cL_law 271 = .ok (.iinc 13 1, 3) := by decide +kernel
theorem dL_law_274 : decode cL_law 274 = .ok (.goto (-21), 3) := by decide +kernel
theorem dL_law_277 : decode cL_law 277 = .ok (.iload 7, 2) := by decide +kernel
theorem dL_law_279 : decode cL_law 279 = .ok (.aload_n 1, 1) := by decide +kernel
theorem dL_law_280 : decode cL_law 280 = .ok (.invokevirtual 128, 3) := by decide +kernel
theorem dL_law_283 : decode cL_law 283 = .ok (.if_icmp .ne 71, 3) := by decide +kernel
theorem dL_law_286 : decode cL_law 286 = .ok (.iload 9, 2) := by decide +kernel
theorem dL_law_288 : decode cL_law 288 = .ok (.iload 6, 2) := by decide +kernel
theorem dL_law_290 : decode cL_law 290 = .ok (.aload_n 1, 1) := by decide +kernel
theorem dL_law_291 : decode cL_law 291 = .ok (.invokevirtual 131, 3) := by decide +kernel
theorem dL_law_294 : decode cL_law 294 = .ok (.iadd, 1) := by decide +kernel
theorem dL_law_295 : decode cL_law 295 = .ok (.if_icmp .ne 59, 3) := by decide +kernel
theorem dL_law_298 : decode cL_law 298 = .ok (.iload 12, 2) := by decide +kernel
theorem dL_law_300 : decode cL_law 300 = .ok (.iload 8, 2) := by decide +kernel
theorem dL_law_302 : decode cL_law 302 = .ok (.iload 9, 2) := by decide +kernel
theorem dL_law_304 : decode cL_law 304 = .ok (.isub, 1) := by decide +kernel
theorem dL_law_305 : decode cL_law 305 = .ok (.if_icmp .ne 49, 3) := by decide +kernel
theorem dL_law_308 : decode cL_law 308 = .ok (.aload_n 1, 1) := by decide +kernel
theorem dL_law_309 : decode cL_law 309 = .ok (.invokevirtual 134, 3) := by decide +kernel
theorem dL_law_312 : decode cL_law 312 = .ok (.ifCond .lt 42, 3) := by decide +kernel
theorem dL_law_315 : decode cL_law 315 = .ok (.aload_n 1, 1) := by decide +kernel
theorem dL_law_316 : decode cL_law 316 = .ok (.invokevirtual 134, 3) := by decide +kernel
theorem dL_law_319 : decode cL_law 319 = .ok (.iload 5, 2) := by decide +kernel
theorem dL_law_321 : decode cL_law 321 = .ok (.if_icmp .ge 33, 3) := by decide +kernel
theorem dL_law_324 : decode cL_law 324 = .ok (.aload_n 1, 1) := by decide +kernel
theorem dL_law_325 : decode cL_law 325 = .ok (.invokevirtual 137, 3) := by decide +kernel
theorem dL_law_328 : decode cL_law 328 = .ok (.iconst (-1), 1) := by decide +kernel
theorem dL_law_329 : decode cL_law 329 = .ok (.if_icmp .lt 25, 3) := by decide +kernel
theorem dL_law_332 : decode cL_law 332 = .ok (.aload_n 1, 1) := by decide +kernel
theorem dL_law_333 : decode cL_law 333 = .ok (.invokevirtual 137, 3) := by decide +kernel
theorem dL_law_336 : decode cL_law 336 = .ok (.iconst 1, 1) := by decide +kernel
theorem dL_law_337 : decode cL_law 337 = .ok (.if_icmp .gt 17, 3) := by decide +kernel
theorem dL_law_340 : decode cL_law 340 = .ok (.aload_n 1, 1) := by decide +kernel
theorem dL_law_341 : decode cL_law 341 = .ok (.invokevirtual 140, 3) := by decide +kernel
theorem dL_law_344 : decode cL_law 344 = .ok (.ifCond .lt 10, 3) := by decide +kernel
theorem dL_law_347 : decode cL_law 347 = .ok (.aload_n 1, 1) := by decide +kernel
theorem dL_law_348 : decode cL_law 348 = .ok (.invokevirtual 142, 3) := by decide +kernel
theorem dL_law_351 : decode cL_law 351 = .ok (.ifCond .ge 5, 3) := by decide +kernel
theorem dL_law_354 : decode cL_law 354 = .ok (.iconst 0, 1) := by decide +kernel
theorem dL_law_355 : decode cL_law 355 = .ok (.ireturn, 1) := by decide +kernel
theorem dL_law_356 : decode cL_law 356 = .ok (.iconst 0, 1) := by decide +kernel
theorem dL_law_357 : decode cL_law 357 = .ok (.istore 13, 2) := by decide +kernel
theorem dL_law_359 : decode cL_law 359 = .ok (.iload 13, 2) := by decide +kernel
theorem dL_law_361 : decode cL_law 361 = .ok (.iload 6, 2) := by decide +kernel
theorem dL_law_363 : decode cL_law 363 = .ok (.if_icmp .ge 207, 3) := by decide +kernel
theorem dL_law_366 : decode cL_law 366 = .ok (.aload_n 1, 1) := by decide +kernel
theorem dL_law_367 : decode cL_law 367 = .ok (.iload 13, 2) := by decide +kernel
theorem dL_law_369 : decode cL_law 369 = .ok (.invokevirtual 145, 3) := by decide +kernel
theorem dL_law_372 : decode cL_law 372 = .ok (.istore 14, 2) := by decide +kernel
theorem dL_law_374 : decode cL_law 374 = .ok (.aload_n 1, 1) := by decide +kernel
theorem dL_law_375 : decode cL_law 375 = .ok (.iload 14, 2) := by decide +kernel
theorem dL_law_377 : decode cL_law 377 = .ok (.aload_n 1, 1) := by decide +kernel
theorem dL_law_378 : decode cL_law 378 = .ok (.iload 13, 2) := by decide +kernel
theorem dL_law_380 : decode cL_law 380 = .ok (.invokevirtual 148, 3) := by decide +kernel
theorem dL_law_383 : decode cL_law 383 = .ok (.invokevirtual 151, 3) := by decide +kernel
theorem dL_law_386 : decode cL_law 386 = .ok (.istore 15, 2) := by decide +kernel
theorem dL_law_388 : decode cL_law 388 = .ok (.aload_n 1, 1) := by decide +kernel
theorem dL_law_389 : decode cL_law 389 = .ok (.iload 13, 2) := by decide +kernel
theorem dL_law_391 : decode cL_law 391 = .ok (.invokevirtual 154, 3) := by decide +kernel
theorem dL_law_394 : decode cL_law 394 = .ok (.iload 15, 2) := by decide +kernel
theorem dL_law_396 : decode cL_law 396 = .ok (.if_icmp .lt 55, 3) := by decide +kernel
theorem dL_law_399 : decode cL_law 399 = .ok (.aload_n 1, 1) := by decide +kernel
theorem dL_law_400 : decode cL_law 400 = .ok (.iload 13, 2) := by decide +kernel
theorem dL_law_402 : decode cL_law 402 = .ok (.invokevirtual 157, 3) := by decide +kernel
theorem dL_law_405 : decode cL_law 405 = .ok (.aload_n 1, 1) := by decide +kernel
theorem dL_law_406 : decode cL_law 406 = .ok (.invokevirtual 160, 3) := by decide +kernel
theorem dL_law_409 : decode cL_law 409 = .ok (.if_icmp .ge 42, 3) := by decide +kernel
theorem dL_law_412 : decode cL_law 412 = .ok (.iload 13, 2) := by decide +kernel
theorem dL_law_414 : decode cL_law 414 = .ok (.ifCond .le 20, 3) := by decide +kernel
theorem dL_law_417 : decode cL_law 417 = .ok (.aload_n 1, 1) := by decide +kernel
theorem dL_law_418 : decode cL_law 418 = .ok (.iload 13, 2) := by decide +kernel
theorem dL_law_420 : decode cL_law 420 = .ok (.invokevirtual 157, 3) := by decide +kernel
theorem dL_law_423 : decode cL_law 423 = .ok (.aload_n 1, 1) := by decide +kernel
theorem dL_law_424 : decode cL_law 424 = .ok (.iload 13, 2) := by decide +kernel
theorem dL_law_426 : decode cL_law 426 = .ok (.iconst 1, 1) := by decide +kernel
theorem dL_law_427 : decode cL_law 427 = .ok (.isub, 1) := by decide +kernel
theorem dL_law_428 : decode cL_law 428 = .ok (.invokevirtual 157, 3) := by decide +kernel
theorem dL_law_431 : decode cL_law 431 = .ok (.if_icmp .le 20, 3) := by decide +kernel
theorem dL_law_434 : decode cL_law 434 = .ok (.aload_n 1, 1) := by decide +kernel
theorem dL_law_435 : decode cL_law 435 = .ok (.iload 13, 2) := by decide +kernel
theorem dL_law_437 : decode cL_law 437 = .ok (.invokevirtual 154, 3) := by decide +kernel
theorem dL_law_440 : decode cL_law 440 = .ok (.aload_n 1, 1) := by decide +kernel
theorem dL_law_441 : decode cL_law 441 = .ok (.aload_n 1, 1) := by decide +kernel
theorem dL_law_442 : decode cL_law 442 = .ok (.invokevirtual 163, 3) := by decide +kernel
theorem dL_law_445 : decode cL_law 445 = .ok (.invokevirtual 154, 3) := by decide +kernel
theorem dL_law_448 : decode cL_law 448 = .ok (.if_icmp .le 5, 3) := by decide +kernel
theorem dL_law_451 : decode cL_law 451 = .ok (.iconst 0, 1) := by decide +kernel
theorem dL_law_452 : decode cL_law 452 = .ok (.ireturn, 1) := by decide +kernel
theorem dL_law_453 : decode cL_law 453 = .ok (.iconst 0, 1) := by decide +kernel
theorem dL_law_454 : decode cL_law 454 = .ok (.istore 16, 2) := by decide +kernel
theorem dL_law_456 : decode cL_law 456 = .ok (.iload 16, 2) := by decide +kernel
theorem dL_law_458 : decode cL_law 458 = .ok (.iload 13, 2) := by decide +kernel
theorem dL_law_460 : decode cL_law 460 = .ok (.if_icmp .ge 37, 3) := by decide +kernel
theorem dL_law_463 : decode cL_law 463 = .ok (.aload_n 1, 1) := by decide +kernel
theorem dL_law_464 : decode cL_law 464 = .ok (.iload 16, 2) := by decide +kernel
theorem dL_law_466 : decode cL_law 466 = .ok (.invokevirtual 145, 3) := by decide +kernel
theorem dL_law_469 : decode cL_law 469 = .ok (.iload 14, 2) := by decide +kernel
theorem dL_law_471 : decode cL_law 471 = .ok (.if_icmp .ne 20, 3) := by decide +kernel
theorem dL_law_474 : decode cL_law 474 = .ok (.aload_n 1, 1) := by decide +kernel
theorem dL_law_475 : decode cL_law 475 = .ok (.iload 16, 2) := by decide +kernel
theorem dL_law_477 : decode cL_law 477 = .ok (.invokevirtual 148, 3) := by decide +kernel
theorem dL_law_480 : decode cL_law 480 = .ok (.aload_n 1, 1) := by decide +kernel
theorem dL_law_481 : decode cL_law 481 = .ok (.iload 13, 2) := by decide +kernel
theorem dL_law_483 : decode cL_law 483 = .ok (.invokevirtual 148, 3) := by decide +kernel
theorem dL_law_486 : decode cL_law 486 = .ok (.if_icmp .lt 5, 3) := by decide +kernel
theorem dL_law_489 : decode cL_law 489 = .ok (.iconst 0, 1) := by decide +kernel
theorem dL_law_490 : decode cL_law 490 = .ok (.ireturn, 1) := by decide +kernel
theorem dL_law_491 : decode cL_law 491 = .ok (.iinc 16 1, 3) := by decide +kernel
theorem dL_law_494 : decode cL_law 494 = .ok (.goto (-38), 3) := by decide +kernel
theorem dL_law_497 : decode cL_law 497 = .ok (.iconst 0, 1) := by decide +kernel
theorem dL_law_498 : decode cL_law 498 = .ok (.istore 16, 2) := by decide +kernel
theorem dL_law_500 : decode cL_law 500 = .ok (.iload 16, 2) := by decide +kernel
theorem dL_law_502 : decode cL_law 502 = .ok (.aload_n 1, 1) := by decide +kernel
theorem dL_law_503 : decode cL_law 503 = .ok (.invokevirtual 166, 3) := by decide +kernel
theorem dL_law_506 : decode cL_law 506 = .ok (.if_icmp .ge 58, 3) := by decide +kernel
theorem dL_law_509 : decode cL_law 509 = .ok (.aload_n 1, 1) := by decide +kernel
theorem dL_law_510 : decode cL_law 510 = .ok (.iload 16, 2) := by decide +kernel
theorem dL_law_512 : decode cL_law 512 = .ok (.iload 13, 2) := by decide +kernel
theorem dL_law_514 : decode cL_law 514 = .ok (.invokevirtual 168, 3) := by decide +kernel
theorem dL_law_517 : decode cL_law 517 = .ok (.ifCond .lt 39, 3) := by decide +kernel
theorem dL_law_520 : decode cL_law 520 = .ok (.aload_n 1, 1) := by decide +kernel
theorem dL_law_521 : decode cL_law 521 = .ok (.iload 16, 2) := by decide +kernel
theorem dL_law_523 : decode cL_law 523 = .ok (.iload 13, 2) := by decide +kernel
theorem dL_law_525 : decode cL_law 525 = .ok (.invokevirtual 168, 3) := by decide +kernel
theorem dL_law_528 : decode cL_law 528 = .ok (.bipush 10, 2) := by decide +kernel
theorem dL_law_530 : decode cL_law 530 = .ok (.if_icmp .gt 26, 3) := by decide +kernel
theorem dL_law_533 : decode cL_law 533 = .ok (.aload_n 1, 1) := by decide +kernel
theorem dL_law_534 : decode cL_law 534 = .ok (.iload 16, 2) := by decide +kernel
theorem dL_law_536 : decode cL_law 536 = .ok (.iload 13, 2) := by decide +kernel
theorem dL_law_538 : decode cL_law 538 = .ok (.invokevirtual 168, 3) := by decide +kernel
theorem dL_law_541 : decode cL_law 541 = .ok (.aload_n 1, 1) := by decide +kernel
theorem dL_law_542 : decode cL_law 542 = .ok (.iload 16, 2) := by decide +kernel
theorem dL_law_544 : decode cL_law 544 = .ok (.aload_n 1, 1) := by decide +kernel
theorem dL_law_545 : decode cL_law 545 = .ok (.iload 16, 2) := by decide +kernel
theorem dL_law_547 : decode cL_law 547 = .ok (.invokevirtual 171, 3) := by decide +kernel
theorem dL_law_550 : decode cL_law 550 = .ok (.invokevirtual 168, 3) := by decide +kernel
theorem dL_law_553 : decode cL_law 553 = .ok (.if_icmp .le 5, 3) := by decide +kernel
theorem dL_law_556 : decode cL_law 556 = .ok (.iconst 0, 1) := by decide +kernel
theorem dL_law_557 : decode cL_law 557 = .ok (.ireturn, 1) := by decide +kernel
theorem dL_law_558 : decode cL_law 558 = .ok (.iinc 16 1, 3) := by decide +kernel
theorem dL_law_561 : decode cL_law 561 = .ok (.goto (-61), 3) := by decide +kernel
theorem dL_law_564 : decode cL_law 564 = .ok (.iinc 13 1, 3) := by decide +kernel
theorem dL_law_567 : decode cL_law 567 = .ok (.goto (-208), 3) := by decide +kernel
theorem dL_law_570 : decode cL_law 570 = .ok (.iconst 0, 1) := by decide +kernel
theorem dL_law_571 : decode cL_law 571 = .ok (.istore 13, 2) := by decide +kernel
theorem dL_law_573 : decode cL_law 573 = .ok (.iload 13, 2) := by decide +kernel
theorem dL_law_575 : decode cL_law 575 = .ok (.aload_n 1, 1) := by decide +kernel
theorem dL_law_576 : decode cL_law 576 = .ok (.invokevirtual 166, 3) := by decide +kernel
theorem dL_law_579 : decode cL_law 579 = .ok (.if_icmp .ge 42, 3) := by decide +kernel
theorem dL_law_582 : decode cL_law 582 = .ok (.aload_n 1, 1) := by decide +kernel
theorem dL_law_583 : decode cL_law 583 = .ok (.iload 13, 2) := by decide +kernel
theorem dL_law_585 : decode cL_law 585 = .ok (.invokevirtual 174, 3) := by decide +kernel
theorem dL_law_588 : decode cL_law 588 = .ok (.aload_n 1, 1) := by decide +kernel
theorem dL_law_589 : decode cL_law 589 = .ok (.aload_n 1, 1) := by decide +kernel
theorem dL_law_590 : decode cL_law 590 = .ok (.invokevirtual 177, 3) := by decide +kernel
theorem dL_law_593 : decode cL_law 593 = .ok (.invokevirtual 174, 3) := by decide +kernel
theorem dL_law_596 : decode cL_law 596 = .ok (.if_icmp .gt 17, 3) := by decide +kernel
theorem dL_law_599 : decode cL_law 599 = .ok (.aload_n 1, 1) := by decide +kernel
theorem dL_law_600 : decode cL_law 600 = .ok (.iload 13, 2) := by decide +kernel
theorem dL_law_602 : decode cL_law 602 = .ok (.invokevirtual 174, 3) := by decide +kernel
theorem dL_law_605 : decode cL_law 605 = .ok (.bipush 10, 2) := by decide +kernel
theorem dL_law_607 : decode cL_law 607 = .ok (.iload 6, 2) := by decide +kernel
theorem dL_law_609 : decode cL_law 609 = .ok (.imul, 1) := by decide +kernel
theorem dL_law_610 : decode cL_law 610 = .ok (.if_icmp .le 5, 3) := by decide +kernel
theorem dL_law_613 : decode cL_law 613 = .ok (.iconst 0, 1) := by decide +kernel
theorem dL_law_614 : decode cL_law 614 = .ok (.ireturn, 1) := by decide +kernel
theorem dL_law_615 : decode cL_law 615 = .ok (.iinc 13 1, 3) := by decide +kernel
theorem dL_law_618 : decode cL_law 618 = .ok (.goto (-45), 3) := by decide +kernel
theorem dL_law_621 : decode cL_law 621 = .ok (.aload_n 1, 1) := by decide +kernel
theorem dL_law_622 : decode cL_law 622 = .ok (.invokevirtual 180, 3) := by decide +kernel
theorem dL_law_625 : decode cL_law 625 = .ok (.istore 13, 2) := by decide +kernel
theorem dL_law_627 : decode cL_law 627 = .ok (.iload 13, 2) := by decide +kernel
theorem dL_law_629 : decode cL_law 629 = .ok (.newarray .int, 2) := by decide +kernel
theorem dL_law_631 : decode cL_law 631 = .ok (.astore 14, 2) := by decide +kernel
theorem dL_law_633 : decode cL_law 633 = .ok (.iload 13, 2) := by decide +kernel
theorem dL_law_635 : decode cL_law 635 = .ok (.newarray .boolean, 2) := by decide +kernel
theorem dL_law_637 : decode cL_law 637 = .ok (.astore 15, 2) := by decide +kernel
theorem dL_law_639 : decode cL_law 639 = .ok (.iconst 0, 1) := by decide +kernel
theorem dL_law_640 : decode cL_law 640 = .ok (.istore 16, 2) := by decide +kernel
theorem dL_law_642 : decode cL_law 642 = .ok (.iconst 0, 1) := by decide +kernel
theorem dL_law_643 : decode cL_law 643 = .ok (.istore 17, 2) := by decide +kernel
theorem dL_law_645 : decode cL_law 645 = .ok (.iconst 0, 1) := by decide +kernel
theorem dL_law_646 : decode cL_law 646 = .ok (.istore 18, 2) := by decide +kernel
theorem dL_law_648 : decode cL_law 648 = .ok (.iload 18, 2) := by decide +kernel
theorem dL_law_650 : decode cL_law 650 = .ok (.iload 13, 2) := by decide +kernel
theorem dL_law_652 : decode cL_law 652 = .ok (.if_icmp .ge 119, 3) := by decide +kernel
theorem dL_law_655 : decode cL_law 655 = .ok (.aload 14, 2) := by decide +kernel
theorem dL_law_657 : decode cL_law 657 = .ok (.iload 18, 2) := by decide +kernel
theorem dL_law_659 : decode cL_law 659 = .ok (.aload_n 1, 1) := by decide +kernel
theorem dL_law_660 : decode cL_law 660 = .ok (.iload 18, 2) := by decide +kernel
theorem dL_law_662 : decode cL_law 662 = .ok (.invokevirtual 182, 3) := by decide +kernel
theorem dL_law_665 : decode cL_law 665 = .ok (.iastore, 1) := by decide +kernel
theorem dL_law_666 : decode cL_law 666 = .ok (.aload 15, 2) := by decide +kernel
theorem dL_law_668 : decode cL_law 668 = .ok (.iload 18, 2) := by decide +kernel
theorem dL_law_670 : decode cL_law 670 = .ok (.aload_n 1, 1) := by decide +kernel
theorem dL_law_671 : decode cL_law 671 = .ok (.iload 18, 2) := by decide +kernel
theorem dL_law_673 : decode cL_law 673 = .ok (.invokevirtual 185, 3) := by decide +kernel
theorem dL_law_676 : decode cL_law 676 = .ok (.bastore, 1) := by decide +kernel
theorem dL_law_677 : decode cL_law 677 = .ok (.iload 16, 2) := by decide +kernel
theorem dL_law_679 : decode cL_law 679 = .ok (.aload 15, 2) := by decide +kernel
theorem dL_law_681 : decode cL_law 681 = .ok (.iload 18, 2) := by decide +kernel
theorem dL_law_683 : decode cL_law 683 = .ok (.baload, 1) := by decide +kernel
theorem dL_law_684 : decode cL_law 684 = .ok (.ifCond .eq 7, 3) := by decide +kernel
theorem dL_law_687 : decode cL_law 687 = .ok (.iconst 1, 1) := by decide +kernel
theorem dL_law_688 : decode cL_law 688 = .ok (.goto 4, 3) := by decide +kernel
theorem dL_law_691 : decode cL_law 691 = .ok (.iconst 0, 1) := by decide +kernel
theorem dL_law_692 : decode cL_law 692 = .ok (.iadd, 1) := by decide +kernel
theorem dL_law_693 : decode cL_law 693 = .ok (.istore 16, 2) := by decide +kernel
theorem dL_law_695 : decode cL_law 695 = .ok (.iload 17, 2) := by decide +kernel
theorem dL_law_697 : decode cL_law 697 = .ok (.aload 14, 2) := by decide +kernel
theorem dL_law_699 : decode cL_law 699 = .ok (.iload 18, 2) := by decide +kernel
theorem dL_law_701 : decode cL_law 701 = .ok (.iaload, 1) := by decide +kernel
theorem dL_law_702 : decode cL_law 702 = .ok (.iadd, 1) := by decide +kernel
theorem dL_law_703 : decode cL_law 703 = .ok (.istore 17, 2) := by decide +kernel
theorem dL_law_705 : decode cL_law 705 = .ok (.aload 14, 2) := by decide +kernel
theorem dL_law_707 : decode cL_law 707 = .ok (.iload 18, 2) := by decide +kernel
theorem dL_law_709 : decode cL_law 709 = .ok (.iaload, 1) := by decide +kernel
theorem dL_law_710 : decode cL_law 710 = .ok (.ifCond .lt 53, 3) := by decide +kernel
theorem dL_law_713 : decode cL_law 713 = .ok (.aload 14, 2) := by decide +kernel
theorem dL_law_715 : decode cL_law 715 = .ok (.iload 18, 2) := by decide +kernel
theorem dL_law_717 : decode cL_law 717 = .ok (.iaload, 1) := by decide +kernel
theorem dL_law_718 : decode cL_law 718 = .ok (.bipush 99, 2) := by decide +kernel
theorem dL_law_720 : decode cL_law 720 = .ok (.if_icmp .gt 43, 3) := by decide +kernel
theorem dL_law_723 : decode cL_law 723 = .ok (.aload 15, 2) := by decide +kernel
theorem dL_law_725 : decode cL_law 725 = .ok (.iload 18, 2) := by decide +kernel
theorem dL_law_727 : decode cL_law 727 = .ok (.baload, 1) := by decide +kernel
theorem dL_law_728 : decode cL_law 728 = .ok (.ifCond .ne 11, 3) := by decide +kernel
theorem dL_law_731 : decode cL_law 731 = .ok (.aload 14, 2) := by decide +kernel
theorem dL_law_733 : decode cL_law 733 = .ok (.iload 18, 2) := by decide +kernel
theorem dL_law_735 : decode cL_law 735 = .ok (.iaload, 1) := by decide +kernel
theorem dL_law_736 : decode cL_law 736 = .ok (.ifCond .gt 27, 3) := by decide +kernel
theorem dL_law_739 : decode cL_law 739 = .ok (.aload 15, 2) := by decide +kernel
theorem dL_law_741 : decode cL_law 741 = .ok (.iload 18, 2) := by decide +kernel
theorem dL_law_743 : decode cL_law 743 = .ok (.baload, 1) := by decide +kernel
theorem dL_law_744 : decode cL_law 744 = .ok (.ifCond .eq 21, 3) := by decide +kernel
theorem dL_law_747 : decode cL_law 747 = .ok (.aload 14, 2) := by decide +kernel
theorem dL_law_749 : decode cL_law 749 = .ok (.iload 18, 2) := by decide +kernel
theorem dL_law_751 : decode cL_law 751 = .ok (.iaload, 1) := by decide +kernel
theorem dL_law_752 : decode cL_law 752 = .ok (.aload_n 1, 1) := by decide +kernel
theorem dL_law_753 : decode cL_law 753 = .ok (.aload_n 1, 1) := by decide +kernel
theorem dL_law_754 : decode cL_law 754 = .ok (.invokevirtual 188, 3) := by decide +kernel
theorem dL_law_757 : decode cL_law 757 = .ok (.invokevirtual 182, 3) := by decide +kernel
theorem dL_law_760 : decode cL_law 760 = .ok (.if_icmp .le 5, 3) := by decide +kernel
theorem dL_law_763 : decode cL_law 763 = .ok (.iconst 0, 1) := by decide +kernel
theorem dL_law_764 : decode cL_law 764 = .ok (.ireturn, 1) := by decide +kernel
theorem dL_law_765 : decode cL_law 765 = .ok (.iinc 18 1, 3) := by decide +kernel
theorem dL_law_768 : decode cL_law 768 = .ok (.goto (-120), 3) := by decide +kernel
theorem dL_law_771 : decode cL_law 771 = .ok (.iload 16, 2) := by decide +kernel
theorem dL_law_773 : decode cL_law 773 = .ok (.aload_n 1, 1) := by decide +kernel
theorem dL_law_774 : decode cL_law 774 = .ok (.invokevirtual 191, 3) := by decide +kernel
theorem dL_law_777 : decode cL_law 777 = .ok (.if_icmp .ne 52, 3) := by decide +kernel
theorem dL_law_780 : decode cL_law 780 = .ok (.aload_n 1, 1) := by decide +kernel
theorem dL_law_781 : decode cL_law 781 = .ok (.invokevirtual 188, 3) := by decide +kernel
theorem dL_law_784 : decode cL_law 784 = .ok (.ifCond .ge 7, 3) := by decide +kernel
theorem dL_law_787 : decode cL_law 787 = .ok (.iconst 1, 1) := by decide +kernel
theorem dL_law_788 : decode cL_law 788 = .ok (.goto 4, 3) := by decide +kernel
theorem dL_law_791 : decode cL_law 791 = .ok (.iconst 0, 1) := by decide +kernel
theorem dL_law_792 : decode cL_law 792 = .ok (.iload 16, 2) := by decide +kernel
theorem dL_law_794 : decode cL_law 794 = .ok (.ifCond .ne 7, 3) := by decide +kernel
theorem dL_law_797 : decode cL_law 797 = .ok (.iconst 1, 1) := by decide +kernel
theorem dL_law_798 : decode cL_law 798 = .ok (.goto 4, 3) := by decide +kernel
theorem dL_law_801 : decode cL_law 801 = .ok (.iconst 0, 1) := by decide +kernel
theorem dL_law_802 : decode cL_law 802 = .ok (.if_icmp .ne 27, 3) := by decide +kernel
theorem dL_law_805 : decode cL_law 805 = .ok (.aload_n 1, 1) := by decide +kernel
theorem dL_law_806 : decode cL_law 806 = .ok (.invokevirtual 192, 3) := by decide +kernel
theorem dL_law_809 : decode cL_law 809 = .ok (.iload 16, 2) := by decide +kernel
theorem dL_law_811 : decode cL_law 811 = .ok (.ifCond .ne 7, 3) := by decide +kernel
theorem dL_law_814 : decode cL_law 814 = .ok (.dconst 0, 1) := by decide +kernel
theorem dL_law_815 : decode cL_law 815 = .ok (.goto 10, 3) := by decide +kernel
theorem dL_law_818 : decode cL_law 818 = .ok (.iload 17, 2) := by decide +kernel
theorem dL_law_820 : decode cL_law 820 = .ok (.i2d, 1) := by decide +kernel
theorem dL_law_821 : decode cL_law 821 = .ok (.iload 16, 2) := by decide +kernel
theorem dL_law_823 : decode cL_law 823 = .ok (.i2d, 1) := by decide +kernel
theorem dL_law_824 : decode cL_law 824 = .ok (.ddiv, 1) := by decide +kernel
theorem dL_law_825 : decode cL_law 825 = .ok (.dcmp .l, 1) := by decide +kernel
theorem dL_law_826 : decode cL_law 826 = .ok (.ifCond .eq 5, 3) := by decide +kernel
theorem dL_law_829 : decode cL_law 829 = .ok (.iconst 0, 1) := by decide +kernel
theorem dL_law_830 : decode cL_law 830 = .ok (.ireturn, 1) := by decide +kernel
theorem dL_law_831 : decode cL_law 831 = .ok (.aload_n 1, 1) := by decide +kernel
theorem dL_law_832 : decode cL_law 832 = .ok (.invokevirtual 134, 3) := by decide +kernel
theorem dL_law_835 : decode cL_law 835 = .ok (.istore 18, 2) := by decide +kernel
theorem dL_law_837 : decode cL_law 837 = .ok (.aload_n 1, 1) := by decide +kernel
theorem dL_law_838 : decode cL_law 838 = .ok (.invokevirtual 196, 3) := by decide +kernel
theorem dL_law_841 : decode cL_law 841 = .ok (.istore 19, 2) := by decide +kernel
theorem dL_law_843 : decode cL_law 843 = .ok (.aload_n 1, 1) := by decide +kernel
theorem dL_law_844 : decode cL_law 844 = .ok (.invokevirtual 142, 3) := by decide +kernel
theorem dL_law_847 : decode cL_law 847 = .ok (.istore 20, 2) := by decide +kernel
theorem dL_law_849 : decode cL_law 849 = .ok (.aload_n 1, 1) := by decide +kernel
theorem dL_law_850 : decode cL_law 850 = .ok (.invokevirtual 131, 3) := by decide +kernel
theorem dL_law_853 : decode cL_law 853 = .ok (.istore 21, 2) := by decide +kernel
theorem dL_law_855 : decode cL_law 855 = .ok (.aload_n 1, 1) := by decide +kernel
theorem dL_law_856 : decode cL_law 856 = .ok (.iconst 1, 1) := by decide +kernel
theorem dL_law_857 : decode cL_law 857 = .ok (.invokevirtual 87, 3) := by decide +kernel
theorem dL_law_860 : decode cL_law 860 = .ok (.istore 22, 2) := by decide +kernel
theorem dL_law_862 : decode cL_law 862 = .ok (.aload_n 2, 1) := by decide +kernel
theorem dL_law_863 : decode cL_law 863 = .ok (.invokevirtual 199, 3) := by decide +kernel
theorem dL_law_866 : decode cL_law 866 = .ok (.aload_n 1, 1) := by decide +kernel
theorem dL_law_867 : decode cL_law 867 = .ok (.invokevirtual 134, 3) := by decide +kernel
theorem dL_law_870 : decode cL_law 870 = .ok (.iload 18, 2) := by decide +kernel
theorem dL_law_872 : decode cL_law 872 = .ok (.isub, 1) := by decide +kernel
theorem dL_law_873 : decode cL_law 873 = .ok (.istore 23, 2) := by decide +kernel
theorem dL_law_875 : decode cL_law 875 = .ok (.iconst 0, 1) := by decide +kernel
theorem dL_law_876 : decode cL_law 876 = .ok (.istore 24, 2) := by decide +kernel
theorem dL_law_878 : decode cL_law 878 = .ok (.iconst 0, 1) := by decide +kernel
theorem dL_law_879 : decode cL_law 879 = .ok (.istore 25, 2) := by decide +kernel
theorem dL_law_881 : decode cL_law 881 = .ok (.iload 25, 2) := by decide +kernel
theorem dL_law_883 : decode cL_law 883 = .ok (.iload 5, 2) := by decide +kernel
theorem dL_law_885 : decode cL_law 885 = .ok (.if_icmp .ge 82, 3) := by decide +kernel
theorem dL_law_888 : decode cL_law 888 = .ok (.aload 11, 2) := by decide +kernel
theorem dL_law_890 : decode cL_law 890 = .ok (.iload 25, 2) := by decide +kernel
theorem dL_law_892 : decode cL_law 892 = .ok (.baload, 1) := by decide +kernel
theorem dL_law_893 : decode cL_law 893 = .ok (.aload_n 1, 1) := by decide +kernel
theorem dL_law_894 : decode cL_law 894 = .ok (.iload 25, 2) := by decide +kernel
theorem dL_law_896 : decode cL_law 896 = .ok (.invokevirtual 119, 3) := by decide +kernel
theorem dL_law_899 : decode cL_law 899 = .ok (.if_icmp .eq 6, 3) := by decide +kernel
theorem dL_law_902 : decode cL_law 902 = .ok (.iinc 24 1, 3) := by decide +kernel
theorem dL_law_905 : decode cL_law 905 = .ok (.aload 11, 2) := by decide +kernel
theorem dL_law_907 : decode cL_law 907 = .ok (.iload 25, 2) := by decide +kernel
theorem dL_law_909 : decode cL_law 909 = .ok (.baload, 1) := by decide +kernel
theorem dL_law_910 : decode cL_law 910 = .ok (.aload_n 1, 1) := by decide +kernel
theorem dL_law_911 : decode cL_law 911 = .ok (.iload 25, 2) := by decide +kernel
theorem dL_law_913 : decode cL_law 913 = .ok (.invokevirtual 119, 3) := by decide +kernel
theorem dL_law_916 : decode cL_law 916 = .ok (.if_icmp .eq 20, 3) := by decide +kernel
theorem dL_law_919 : decode cL_law 919 = .ok (.iload 25, 2) := by decide +kernel
theorem dL_law_921 : decode cL_law 921 = .ok (.aload_n 1, 1) := by decide +kernel
theorem dL_law_922 : decode cL_law 922 = .ok (.invokevirtual 134, 3) := by decide +kernel
theorem dL_law_925 : decode cL_law 925 = .ok (.if_icmp .ne 34, 3) := by decide +kernel
theorem dL_law_928 : decode cL_law 928 = .ok (.aload 11, 2) := by decide +kernel
theorem dL_law_930 : decode cL_law 930 = .ok (.iload 25, 2) := by decide +kernel
theorem dL_law_932 : decode cL_law 932 = .ok (.baload, 1) := by decide +kernel
theorem dL_law_933 : decode cL_law 933 = .ok (.ifCond .eq 26, 3) := by decide +kernel
theorem dL_law_936 : decode cL_law 936 = .ok (.aload_n 1, 1) := by decide +kernel
theorem dL_law_937 : decode cL_law 937 = .ok (.iload 25, 2) := by decide +kernel
theorem dL_law_939 : decode cL_law 939 = .ok (.invokevirtual 116, 3) := by decide +kernel
theorem dL_law_942 : decode cL_law 942 = .ok (.aload 10, 2) := by decide +kernel
theorem dL_law_944 : decode cL_law 944 = .ok (.iload 25, 2) := by decide +kernel
theorem dL_law_946 : decode cL_law 946 = .ok (.iaload, 1) := by decide +kernel
theorem dL_law_947 : decode cL_law 947 = .ok (.if_icmp .eq 14, 3) := by decide +kernel
theorem dL_law_950 : decode cL_law 950 = .ok (.iload 25, 2) := by decide +kernel
theorem dL_law_952 : decode cL_law 952 = .ok (.aload_n 1, 1) := by decide +kernel
theorem dL_law_953 : decode cL_law 953 = .ok (.invokevirtual 134, 3) := by decide +kernel
theorem dL_law_956 : decode cL_law 956 = .ok (.if_icmp .eq 5, 3) := by decide +kernel
theorem dL_law_959 : decode cL_law 959 = .ok (.iconst 0, 1) := by decide +kernel
theorem dL_law_960 : decode cL_law 960 = .ok (.ireturn, 1) := by decide +kernel
theorem dL_law_961 : decode cL_law 961 = .ok (.iinc 25 1, 3) := by decide +kernel
theorem dL_law_964 : decode cL_law 964 = .ok (.goto (-83), 3) := by decide +kernel
theorem dL_law_967 : decode cL_law 967 = .ok (.iconst 0, 1) := by decide +kernel
theorem dL_law_968 : decode cL_law 968 = .ok (.istore 25, 2) := by decide +kernel
theorem dL_law_970 : decode cL_law 970 = .ok (.iconst 0, 1) := by decide +kernel
theorem dL_law_971 : decode cL_law 971 = .ok (.istore 26, 2) := by decide +kernel
theorem dL_law_973 : decode cL_law 973 = .ok (.iload 26, 2) := by decide +kernel
theorem dL_law_975 : decode cL_law 975 = .ok (.iload 5, 2) := by decide +kernel
theorem dL_law_977 : decode cL_law 977 = .ok (.if_icmp .ge 51, 3) := by decide +kernel
theorem dL_law_980 : decode cL_law 980 = .ok (.iload 25, 2) := by decide +kernel
theorem dL_law_982 : decode cL_law 982 = .ok (.ifCond .ne 33, 3) := by decide +kernel
theorem dL_law_985 : decode cL_law 985 = .ok (.aload 11, 2) := by decide +kernel
theorem dL_law_987 : decode cL_law 987 = .ok (.iload 26, 2) := by decide +kernel
theorem dL_law_989 : decode cL_law 989 = .ok (.baload, 1) := by decide +kernel
theorem dL_law_990 : decode cL_law 990 = .ok (.ifCond .eq 29, 3) := by decide +kernel
theorem dL_law_993 : decode cL_law 993 = .ok (.iload 23, 2) := by decide +kernel
theorem dL_law_995 : decode cL_law 995 = .ok (.ifCond .le 13, 3) := by decide +kernel
theorem dL_law_998 : decode cL_law 998 = .ok (.iload 26, 2) := by decide +kernel
theorem dL_law_1000 : decode cL_law 1000 = .ok (.iload 18, 2) := by decide +kernel
theorem dL_law_1002 : decode cL_law 1002 = .ok (.if_icmp .le 17, 3) := by decide +kernel
theorem dL_law_1005 : decode cL_law 1005 = .ok (.goto 10, 3) := by decide +kernel
theorem dL_law_1008 : decode cL_law 1008 = .ok (.iload 26, 2) := by decide +kernel
theorem dL_law_1010 : decode cL_law 1010 = .ok (.iload 18, 2) := by decide +kernel
theorem dL_law_1012 : decode cL_law 1012 = .ok (.if_icmp .ge 7, 3) := by decide +kernel
theorem dL_law_1015 : decode cL_law 1015 = .ok (.iconst 1, 1) := by decide +kernel
theorem dL_law_1016 : decode cL_law 1016 = .ok (.goto 4, 3) := by decide +kernel
theorem dL_law_1019 : decode cL_law 1019 = .ok (.iconst 0, 1) := by decide +kernel
theorem dL_law_1020 : decode cL_law 1020 = .ok (.istore 25, 2) := by decide +kernel
theorem dL_law_1022 : decode cL_law 1022 = .ok (.iinc 26 1, 3) := by decide +kernel
theorem dL_law_1025 : decode cL_law 1025 = .ok (.goto (-52), 3) := by decide +kernel
theorem dL_law_1028 : decode cL_law 1028 = .ok (.iload 23, 2) := by decide +kernel
theorem dL_law_1030 : decode cL_law 1030 = .ok (.iconst (-1), 1) := by decide +kernel
theorem dL_law_1031 : decode cL_law 1031 = .ok (.if_icmp .lt 110, 3) := by decide +kernel
theorem dL_law_1034 : decode cL_law 1034 = .ok (.iload 23, 2) := by decide +kernel
theorem dL_law_1036 : decode cL_law 1036 = .ok (.iconst 1, 1) := by decide +kernel
theorem dL_law_1037 : decode cL_law 1037 = .ok (.if_icmp .gt 104, 3) := by decide +kernel
theorem dL_law_1040 : decode cL_law 1040 = .ok (.iload 23, 2) := by decide +kernel
theorem dL_law_1042 : decode cL_law 1042 = .ok (.ifCond .eq 21, 3) := by decide +kernel
theorem dL_law_1045 : decode cL_law 1045 = .ok (.iload 19, 2) := by decide +kernel
theorem dL_law_1047 : decode cL_law 1047 = .ok (.ifCond .gt 94, 3) := by decide +kernel
theorem dL_law_1050 : decode cL_law 1050 = .ok (.iload 25, 2) := by decide +kernel
theorem dL_law_1052 : decode cL_law 1052 = .ok (.ifCond .eq 89, 3) := by decide +kernel
theorem dL_law_1055 : decode cL_law 1055 = .ok (.aload 11, 2) := by decide +kernel
theorem dL_law_1057 : decode cL_law 1057 = .ok (.iload 18, 2) := by decide +kernel
theorem dL_law_1059 : decode cL_law 1059 = .ok (.baload, 1) := by decide +kernel
theorem dL_law_1060 : decode cL_law 1060 = .ok (.ifCond .ne 81, 3) := by decide +kernel
theorem dL_law_1063 : decode cL_law 1063 = .ok (.iload 19, 2) := by decide +kernel
theorem dL_law_1065 : decode cL_law 1065 = .ok (.ifCond .ne 21, 3) := by decide +kernel
theorem dL_law_1068 : decode cL_law 1068 = .ok (.iload 7, 2) := by decide +kernel
theorem dL_law_1070 : decode cL_law 1070 = .ok (.ifCond .le 16, 3) := by decide +kernel
theorem dL_law_1073 : decode cL_law 1073 = .ok (.iload 23, 2) := by decide +kernel
theorem dL_law_1075 : decode cL_law 1075 = .ok (.ifCond .ne 11, 3) := by decide +kernel
theorem dL_law_1078 : decode cL_law 1078 = .ok (.aload 11, 2) := by decide +kernel
theorem dL_law_1080 : decode cL_law 1080 = .ok (.iload 18, 2) := by decide +kernel
theorem dL_law_1082 : decode cL_law 1082 = .ok (.baload, 1) := by decide +kernel
theorem dL_law_1083 : decode cL_law 1083 = .ok (.ifCond .eq 58, 3) := by decide +kernel
theorem dL_law_1086 : decode cL_law 1086 = .ok (.iload 24, 2) := by decide +kernel
theorem dL_law_1088 : decode cL_law 1088 = .ok (.iconst 1, 1) := by decide +kernel
theorem dL_law_1089 : decode cL_law 1089 = .ok (.if_icmp .gt 52, 3) := by decide +kernel
theorem dL_law_1092 : decode cL_law 1092 = .ok (.iload 19, 2) := by decide +kernel
theorem dL_law_1094 : decode cL_law 1094 = .ok (.ifCond .le 8, 3) := by decide +kernel
theorem dL_law_1097 : decode cL_law 1097 = .ok (.iload 24, 2) := by decide +kernel
theorem dL_law_1099 : decode cL_law 1099 = .ok (.ifCond .gt 42, 3) := by decide +kernel
theorem dL_law_1102 : decode cL_law 1102 = .ok (.iload 22, 2) := by decide +kernel
theorem dL_law_1104 : decode cL_law 1104 = .ok (.ifCond .lt 37, 3) := by decide +kernel
theorem dL_law_1107 : decode cL_law 1107 = .ok (.iload 22, 2) := by decide +kernel
theorem dL_law_1109 : decode cL_law 1109 = .ok (.iload 24, 2) := by decide +kernel
theorem dL_law_1111 : decode cL_law 1111 = .ok (.if_icmp .gt 30, 3) := by decide +kernel
theorem dL_law_1114 : decode cL_law 1114 = .ok (.iload 22, 2) := by decide +kernel
theorem dL_law_1116 : decode cL_law 1116 = .ok (.aload_n 1, 1) := by decide +kernel
theorem dL_law_1117 : decode cL_law 1117 = .ok (.invokevirtual 131, 3) := by decide +kernel
theorem dL_law_1120 : decode cL_law 1120 = .ok (.iadd, 1) := by decide +kernel
theorem dL_law_1121 : decode cL_law 1121 = .ok (.iload 21, 2) := by decide +kernel
theorem dL_law_1123 : decode cL_law 1123 = .ok (.isub, 1) := by decide +kernel
theorem dL_law_1124 : decode cL_law 1124 = .ok (.iload 24, 2) := by decide +kernel
theorem dL_law_1126 : decode cL_law 1126 = .ok (.if_icmp .gt 15, 3) := by decide +kernel
theorem dL_law_1129 : decode cL_law 1129 = .ok (.aload_n 1, 1) := by decide +kernel
theorem dL_law_1130 : decode cL_law 1130 = .ok (.invokevirtual 110, 3) := by decide +kernel
theorem dL_law_1133 : decode cL_law 1133 = .ok (.iload 6, 2) := by decide +kernel
theorem dL_law_1135 : decode cL_law 1135 = .ok (.iload 22, 2) := by decide +kernel
theorem dL_law_1137 : decode cL_law 1137 = .ok (.iadd, 1) := by decide +kernel
theorem dL_law_1138 : decode cL_law 1138 = .ok (.if_icmp .eq 5, 3) := by decide +kernel
theorem dL_law_1141 : decode cL_law 1141 = .ok (.iconst 0, 1) := by decide +kernel
theorem dL_law_1142 : decode cL_law 1142 = .ok (.ireturn, 1) := by decide +kernel
theorem dL_law_1143 : decode cL_law 1143 = .ok (.iload 22, 2) := by decide +kernel
theorem dL_law_1145 : decode cL_law 1145 = .ok (.ifCond .le 13, 3) := by decide +kernel
theorem dL_law_1148 : decode cL_law 1148 = .ok (.aload_n 1, 1) := by decide +kernel
theorem dL_law_1149 : decode cL_law 1149 = .ok (.invokevirtual 142, 3) := by decide +kernel
theorem dL_law_1152 : decode cL_law 1152 = .ok (.ifCond .eq 34, 3) := by decide +kernel
theorem dL_law_1155 : decode cL_law 1155 = .ok (.goto 29, 3) := by decide +kernel
theorem dL_law_1158 : decode cL_law 1158 = .ok (.iload 19, 2) := by decide +kernel
theorem dL_law_1160 : decode cL_law 1160 = .ok (.ifCond .le 15, 3) := by decide +kernel
theorem dL_law_1163 : decode cL_law 1163 = .ok (.aload_n 1, 1) := by decide +kernel
theorem dL_law_1164 : decode cL_law 1164 = .ok (.invokevirtual 142, 3) := by decide +kernel
theorem dL_law_1167 : decode cL_law 1167 = .ok (.iload 20, 2) := by decide +kernel
theorem dL_law_1169 : decode cL_law 1169 = .ok (.if_icmp .gt 17, 3) := by decide +kernel
theorem dL_law_1172 : decode cL_law 1172 = .ok (.goto 12, 3) := by decide +kernel
theorem dL_law_1175 : decode cL_law 1175 = .ok (.aload_n 1, 1) := by decide +kernel
theorem dL_law_1176 : decode cL_law 1176 = .ok (.invokevirtual 142, 3) := by decide +kernel
theorem dL_law_1179 : decode cL_law 1179 = .ok (.iload 20, 2) := by decide +kernel
theorem dL_law_1181 : decode cL_law 1181 = .ok (.if_icmp .eq 5, 3) := by decide +kernel
theorem dL_law_1184 : decode cL_law 1184 = .ok (.iconst 0, 1) := by decide +kernel
theorem dL_law_1185 : decode cL_law 1185 = .ok (.ireturn, 1) := by decide +kernel
theorem dL_law_1186 : decode cL_law 1186 = .ok (.iload 22, 2) := by decide +kernel
theorem dL_law_1188 : decode cL_law 1188 = .ok (.ifCond .le 71, 3) := by decide +kernel
theorem dL_law_1191 : decode cL_law 1191 = .ok (.aload_n 1, 1) := by decide +kernel
theorem dL_law_1192 : decode cL_law 1192 = .ok (.iload 6, 2) := by decide +kernel
theorem dL_law_1194 : decode cL_law 1194 = .ok (.invokevirtual 154, 3) := by decide +kernel
theorem dL_law_1197 : decode cL_law 1197 = .ok (.aload_n 1, 1) := by decide +kernel
theorem dL_law_1198 : decode cL_law 1198 = .ok (.aload_n 1, 1) := by decide +kernel
theorem dL_law_1199 : decode cL_law 1199 = .ok (.iload 6, 2) := by decide +kernel
theorem dL_law_1201 : decode cL_law 1201 = .ok (.invokevirtual 145, 3) := by decide +kernel
theorem dL_law_1204 : decode cL_law 1204 = .ok (.aload_n 1, 1) := by decide +kernel
theorem dL_law_1205 : decode cL_law 1205 = .ok (.iload 6, 2) := by decide +kernel
theorem dL_law_1207 : decode cL_law 1207 = .ok (.invokevirtual 148, 3) := by decide +kernel
theorem dL_law_1210 : decode cL_law 1210 = .ok (.invokevirtual 151, 3) := by decide +kernel
theorem dL_law_1213 : decode cL_law 1213 = .ok (.iload 20, 2) := by decide +kernel
theorem dL_law_1215 : decode cL_law 1215 = .ok (.iadd, 1) := by decide +kernel
theorem dL_law_1216 : decode cL_law 1216 = .ok (.if_icmp .ne 41, 3) := by decide +kernel
theorem dL_law_1219 : decode cL_law 1219 = .ok (.aload_n 1, 1) := by decide +kernel
theorem dL_law_1220 : decode cL_law 1220 = .ok (.aload_n 1, 1) := by decide +kernel
theorem dL_law_1221 : decode cL_law 1221 = .ok (.aload_n 1, 1) := by decide +kernel
theorem dL_law_1222 : decode cL_law 1222 = .ok (.iload 6, 2) := by decide +kernel
theorem dL_law_1224 : decode cL_law 1224 = .ok (.invokevirtual 145, 3) := by decide +kernel
theorem dL_law_1227 : decode cL_law 1227 = .ok (.aload_n 1, 1) := by decide +kernel
theorem dL_law_1228 : decode cL_law 1228 = .ok (.iload 6, 2) := by decide +kernel
theorem dL_law_1230 : decode cL_law 1230 = .ok (.invokevirtual 148, 3) := by decide +kernel
theorem dL_law_1233 : decode cL_law 1233 = .ok (.invokevirtual 202, 3) := by decide +kernel
theorem dL_law_1236 : decode cL_law 1236 = .ok (.invokevirtual 205, 3) := by decide +kernel
theorem dL_law_1239 : decode cL_law 1239 = .ok (.ifCond .ne 18, 3) := by decide +kernel
theorem dL_law_1242 : decode cL_law 1242 = .ok (.aload_n 1, 1) := by decide +kernel
theorem dL_law_1243 : decode cL_law 1243 = .ok (.iload 6, 2) := by decide +kernel
theorem dL_law_1245 : decode cL_law 1245 = .ok (.invokevirtual 157, 3) := by decide +kernel
theorem dL_law_1248 : decode cL_law 1248 = .ok (.aload_n 1, 1) := by decide +kernel
theorem dL_law_1249 : decode cL_law 1249 = .ok (.invokevirtual 160, 3) := by decide +kernel
theorem dL_law_1252 : decode cL_law 1252 = .ok (.iconst 1, 1) := by decide +kernel
theorem dL_law_1253 : decode cL_law 1253 = .ok (.isub, 1) := by decide +kernel
theorem dL_law_1254 : decode cL_law 1254 = .ok (.if_icmp .eq 5, 3) := by decide +kernel
theorem dL_law_1257 : decode cL_law 1257 = .ok (.iconst 0, 1) := by decide +kernel
theorem dL_law_1258 : decode cL_law 1258 = .ok (.ireturn, 1) := by decide +kernel
theorem dL_law_1259 : decode cL_law 1259 = .ok (.iconst 0, 1) := by decide +kernel
theorem dL_law_1260 : decode cL_law 1260 = .ok (.istore 26, 2) := by decide +kernel
theorem dL_law_1262 : decode cL_law 1262 = .ok (.iload 26, 2) := by decide +kernel
theorem dL_law_1264 : decode cL_law 1264 = .ok (.iload 13, 2) := by decide +kernel
theorem dL_law_1266 : decode cL_law 1266 = .ok (.if_icmp .ge 113, 3) := by decide +kernel
theorem dL_law_1269 : decode cL_law 1269 = .ok (.aload_n 1, 1) := by decide +kernel
theorem dL_law_1270 : decode cL_law 1270 = .ok (.iload 26, 2) := by decide +kernel
theorem dL_law_1272 : decode cL_law 1272 = .ok (.invokevirtual 185, 3) := by decide +kernel
theorem dL_law_1275 : decode cL_law 1275 = .ok (.ifCond .eq 11, 3) := by decide +kernel
theorem dL_law_1278 : decode cL_law 1278 = .ok (.aload 15, 2) := by decide +kernel
theorem dL_law_1280 : decode cL_law 1280 = .ok (.iload 26, 2) := by decide +kernel
theorem dL_law_1282 : decode cL_law 1282 = .ok (.baload, 1) := by decide +kernel
theorem dL_law_1283 : decode cL_law 1283 = .ok (.ifCond .eq 88, 3) := by decide +kernel
theorem dL_law_1286 : decode cL_law 1286 = .ok (.aload 15, 2) := by decide +kernel
theorem dL_law_1288 : decode cL_law 1288 = .ok (.iload 26, 2) := by decide +kernel
theorem dL_law_1290 : decode cL_law 1290 = .ok (.baload, 1) := by decide +kernel
theorem dL_law_1291 : decode cL_law 1291 = .ok (.ifCond .eq 25, 3) := by decide +kernel
theorem dL_law_1294 : decode cL_law 1294 = .ok (.aload_n 1, 1) := by decide +kernel
theorem dL_law_1295 : decode cL_law 1295 = .ok (.iload 26, 2) := by decide +kernel
theorem dL_law_1297 : decode cL_law 1297 = .ok (.invokevirtual 185, 3) := by decide +kernel
theorem dL_law_1300 : decode cL_law 1300 = .ok (.ifCond .ne 16, 3) := by decide +kernel
theorem dL_law_1303 : decode cL_law 1303 = .ok (.aload 14, 2) := by decide +kernel
theorem dL_law_1305 : decode cL_law 1305 = .ok (.iload 26, 2) := by decide +kernel
theorem dL_law_1307 : decode cL_law 1307 = .ok (.iaload, 1) := by decide +kernel
theorem dL_law_1308 : decode cL_law 1308 = .ok (.ifCond .gt 63, 3) := by decide +kernel
theorem dL_law_1311 : decode cL_law 1311 = .ok (.iload 22, 2) := by decide +kernel
theorem dL_law_1313 : decode cL_law 1313 = .ok (.ifCond .gt 58, 3) := by decide +kernel
theorem dL_law_1316 : decode cL_law 1316 = .ok (.aload 15, 2) := by decide +kernel
theorem dL_law_1318 : decode cL_law 1318 = .ok (.iload 26, 2) := by decide +kernel
theorem dL_law_1320 : decode cL_law 1320 = .ok (.baload, 1) := by decide +kernel
theorem dL_law_1321 : decode cL_law 1321 = .ok (.ifCond .eq 52, 3) := by decide +kernel
theorem dL_law_1324 : decode cL_law 1324 = .ok (.aload_n 1, 1) := by decide +kernel
theorem dL_law_1325 : decode cL_law 1325 = .ok (.iload 26, 2) := by decide +kernel
theorem dL_law_1327 : decode cL_law 1327 = .ok (.invokevirtual 185, 3) := by decide +kernel
theorem dL_law_1330 : decode cL_law 1330 = .ok (.ifCond .eq 43, 3) := by decide +kernel
theorem dL_law_1333 : decode cL_law 1333 = .ok (.iload 22, 2) := by decide +kernel
theorem dL_law_1335 : decode cL_law 1335 = .ok (.ifCond .le 20, 3) := by decide +kernel
theorem dL_law_1338 : decode cL_law 1338 = .ok (.aload_n 1, 1) := by decide +kernel
theorem dL_law_1339 : decode cL_law 1339 = .ok (.iload 26, 2) := by decide +kernel
theorem dL_law_1341 : decode cL_law 1341 = .ok (.invokevirtual 182, 3) := by decide +kernel
theorem dL_law_1344 : decode cL_law 1344 = .ok (.aload 14, 2) := by decide +kernel
theorem dL_law_1346 : decode cL_law 1346 = .ok (.iload 26, 2) := by decide +kernel
theorem dL_law_1348 : decode cL_law 1348 = .ok (.iaload, 1) := by decide +kernel
theorem dL_law_1349 : decode cL_law 1349 = .ok (.if_icmp .ge 24, 3) := by decide +kernel
theorem dL_law_1352 : decode cL_law 1352 = .ok (.goto 19, 3) := by decide +kernel
theorem dL_law_1355 : decode cL_law 1355 = .ok (.aload_n 1, 1) := by decide +kernel
theorem dL_law_1356 : decode cL_law 1356 = .ok (.iload 26, 2) := by decide +kernel
theorem dL_law_1358 : decode cL_law 1358 = .ok (.invokevirtual 182, 3) := by decide +kernel
theorem dL_law_1361 : decode cL_law 1361 = .ok (.aload 14, 2) := by decide +kernel
theorem dL_law_1363 : decode cL_law 1363 = .ok (.iload 26, 2) := by decide +kernel
theorem dL_law_1365 : decode cL_law 1365 = .ok (.iaload, 1) := by decide +kernel
theorem dL_law_1366 : decode cL_law 1366 = .ok (.iconst 1, 1) := by decide +kernel
theorem dL_law_1367 : decode cL_law 1367 = .ok (.isub, 1) := by decide +kernel
theorem dL_law_1368 : decode cL_law 1368 = .ok (.if_icmp .eq 5, 3) := by decide +kernel
theorem dL_law_1371 : decode cL_law 1371 = .ok (.iconst 0, 1) := by decide +kernel
theorem dL_law_1372 : decode cL_law 1372 = .ok (.ireturn, 1) := by decide +kernel
theorem dL_law_1373 : decode cL_law 1373 = .ok (.iinc 26 1, 3) := by decide +kernel
theorem dL_law_1376 : decode cL_law 1376 = .ok (.goto (-114), 3) := by decide +kernel
theorem dL_law_1379 : decode cL_law 1379 = .ok (.aload_n 1, 1) := by decide +kernel
theorem dL_law_1380 : decode cL_law 1380 = .ok (.invokevirtual 128, 3) := by decide +kernel
theorem dL_law_1383 : decode cL_law 1383 = .ok (.ifCond .ne 12, 3) := by decide +kernel
theorem dL_law_1386 : decode cL_law 1386 = .ok (.aload_n 1, 1) := by decide +kernel
theorem dL_law_1387 : decode cL_law 1387 = .ok (.invokevirtual 137, 3) := by decide +kernel
theorem dL_law_1390 : decode cL_law 1390 = .ok (.ifCond .eq 5, 3) := by decide +kernel
theorem dL_law_1393 : decode cL_law 1393 = .ok (.iconst 0, 1) := by decide +kernel
theorem dL_law_1394 : decode cL_law 1394 = .ok (.ireturn, 1) := by decide +kernel
theorem dL_law_1395 : decode cL_law 1395 = .ok (.iinc 3 1, 3) := by decide +kernel
theorem dL_law_1398 : decode cL_law 1398 = .ok (.goto (-1376), 3) := by decide +kernel
theorem dL_law_1401 : decode cL_law 1401 = .ok (.aload_n 2, 1) := by decide +kernel
theorem dL_law_1402 : decode cL_law 1402 = .ok (.aload_n 1, 1) := by decide +kernel
theorem dL_law_1403 : decode cL_law 1403 = .ok (.invokevirtual 208, 3) := by decide +kernel
theorem dL_law_1406 : decode cL_law 1406 = .ok (.ireturn, 1) := by decide +kernel
