theorem d_L_floor_0 : decode b_L_floor 0 = .ok (.aload_n 3, 1) := by decide +kernel
theorem d_L_floor_1 : decode b_L_floor 1 = .ok (.iconst 0, 1) := by decide +kernel
theorem d_L_floor_2 : decode b_L_floor 2 = .ok (.aload_n 0, 1) := by decide +kernel
theorem d_L_floor_3 : decode b_L_floor 3 = .ok (.iload_n 1, 1) := by decide +kernel
theorem d_L_floor_4 : decode b_L_floor 4 = .ok (.iload_n 2, 1) := by decide +kernel
theorem d_L_floor_5 : decode b_L_floor 5 = .ok (.invokevirtual 7, 3) := by decide +kernel
theorem d_L_floor_8 : decode b_L_floor 8 = .ok (.i2l, 1) := by decide +kernel
theorem d_L_floor_9 : decode b_L_floor 9 = .ok (.lastore, 1) := by decide +kernel
theorem d_L_floor_10 : decode b_L_floor 10 = .ok (.goto 11, 3) := by decide +kernel
theorem d_L_floor_13 : decode b_L_floor 13 = .ok (.astore 4, 2) := by decide +kernel
theorem d_L_floor_15 : decode b_L_floor 15 = .ok (.iconst 1, 1) := by decide +kernel
theorem d_L_floor_16 : decode b_L_floor 16 = .ok (.ireturn, 1) := by decide +kernel
theorem d_L_floor_17 : decode b_L_floor 17 = .ok (.astore 4, 2) := by decide +kernel
theorem d_L_floor_19 : decode b_L_floor 19 = .ok (.iconst 2, 1) := by decide +kernel
theorem d_L_floor_20 : decode b_L_floor 20 = .ok (.ireturn, 1) := by decide +kernel
theorem d_L_floor_21 : decode b_L_floor 21 = .ok (.iconst 0, 1) := by decide +kernel
theorem d_L_floor_22 : decode b_L_floor 22 = .ok (.ireturn, 1) := by decide +kernel
theorem d_L_persons_0 : decode b_L_persons 0 = .ok (.aload_n 3, 1) := by decide +kernel
theorem d_L_persons_1 : decode b_L_persons 1 = .ok (.iconst 0, 1) := by decide +kernel
theorem d_L_persons_2 : decode b_L_persons 2 = .ok (.aload_n 0, 1) := by decide +kernel
theorem d_L_persons_3 : decode b_L_persons 3 = .ok (.iload_n 1, 1) := by decide +kernel
theorem d_L_persons_4 : decode b_L_persons 4 = .ok (.iload_n 2, 1) := by decide +kernel
theorem d_L_persons_5 : decode b_L_persons 5 = .ok (.invokevirtual 17, 3) := by decide +kernel
theorem d_L_persons_8 : decode b_L_persons 8 = .ok (.i2l, 1) := by decide +kernel
theorem d_L_persons_9 : decode b_L_persons 9 = .ok (.lastore, 1) := by decide +kernel
theorem d_L_persons_10 : decode b_L_persons 10 = .ok (.goto 11, 3) := by decide +kernel
theorem d_L_persons_13 : decode b_L_persons 13 = .ok (.astore 4, 2) := by decide +kernel
theorem d_L_persons_15 : decode b_L_persons 15 = .ok (.iconst 1, 1) := by decide +kernel
theorem d_L_persons_16 : decode b_L_persons 16 = .ok (.ireturn, 1) := by decide +kernel
theorem d_L_persons_17 : decode b_L_persons 17 = .ok (.astore 4, 2) := by decide +kernel
theorem d_L_persons_19 : decode b_L_persons 19 = .ok (.iconst 2, 1) := by decide +kernel
theorem d_L_persons_20 : decode b_L_persons 20 = .ok (.ireturn, 1) := by decide +kernel
theorem d_L_persons_21 : decode b_L_persons 21 = .ok (.iconst 0, 1) := by decide +kernel
theorem d_L_persons_22 : decode b_L_persons 22 = .ok (.ireturn, 1) := by decide +kernel
theorem d_L_type_0 : decode b_L_type 0 = .ok (.aload 6, 2) := by decide +kernel
theorem d_L_type_2 : decode b_L_type 2 = .ok (.iconst 0, 1) := by decide +kernel
theorem d_L_type_3 : decode b_L_type 3 = .ok (.aload_n 0, 1) := by decide +kernel
theorem d_L_type_4 : decode b_L_type 4 = .ok (.iload_n 1, 1) := by decide +kernel
theorem d_L_type_5 : decode b_L_type 5 = .ok (.iload_n 2, 1) := by decide +kernel
theorem d_L_type_6 : decode b_L_type 6 = .ok (.iload_n 3, 1) := by decide +kernel
theorem d_L_type_7 : decode b_L_type 7 = .ok (.iload 4, 2) := by decide +kernel
theorem d_L_type_9 : decode b_L_type 9 = .ok (.iload 5, 2) := by decide +kernel
theorem d_L_type_11 : decode b_L_type 11 = .ok (.invokevirtual 20, 3) := by decide +kernel
theorem d_L_type_14 : decode b_L_type 14 = .ok (.i2l, 1) := by decide +kernel
theorem d_L_type_15 : decode b_L_type 15 = .ok (.lastore, 1) := by decide +kernel
theorem d_L_type_16 : decode b_L_type 16 = .ok (.goto 11, 3) := by decide +kernel
theorem d_L_type_19 : decode b_L_type 19 = .ok (.astore 7, 2) := by decide +kernel
theorem d_L_type_21 : decode b_L_type 21 = .ok (.iconst 1, 1) := by decide +kernel
theorem d_L_type_22 : decode b_L_type 22 = .ok (.ireturn, 1) := by decide +kernel
theorem d_L_type_23 : decode b_L_type 23 = .ok (.astore 7, 2) := by decide +kernel
theorem d_L_type_25 : decode b_L_type 25 = .ok (.iconst 2, 1) := by decide +kernel
theorem d_L_type_26 : decode b_L_type 26 = .ok (.ireturn, 1) := by decide +kernel
theorem d_L_type_27 : decode b_L_type 27 = .ok (.iconst 0, 1) := by decide +kernel
theorem d_L_type_28 : decode b_L_type 28 = .ok (.ireturn, 1) := by decide +kernel
theorem d_L_stops_0 : decode b_L_stops 0 = .ok (.aload 5, 2) := by decide +kernel
theorem d_L_stops_2 : decode b_L_stops 2 = .ok (.iconst 0, 1) := by decide +kernel
theorem d_L_stops_3 : decode b_L_stops 3 = .ok (.aload_n 0, 1) := by decide +kernel
theorem d_L_stops_4 : decode b_L_stops 4 = .ok (.iload_n 1, 1) := by decide +kernel
theorem d_L_stops_5 : decode b_L_stops 5 = .ok (.iload_n 2, 1) := by decide +kernel
theorem d_L_stops_6 : decode b_L_stops 6 = .ok (.iload_n 3, 1) := by decide +kernel
theorem d_L_stops_7 : decode b_L_stops 7 = .ok (.iload 4, 2) := by decide +kernel
theorem d_L_stops_9 : decode b_L_stops 9 = .ok (.invokevirtual 24, 3) := by decide +kernel
theorem d_L_stops_12 : decode b_L_stops 12 = .ok (.lastore, 1) := by decide +kernel
theorem d_L_stops_13 : decode b_L_stops 13 = .ok (.goto 7, 3) := by decide +kernel
theorem d_L_stops_16 : decode b_L_stops 16 = .ok (.astore 6, 2) := by decide +kernel
theorem d_L_stops_18 : decode b_L_stops 18 = .ok (.iconst 1, 1) := by decide +kernel
theorem d_L_stops_19 : decode b_L_stops 19 = .ok (.ireturn, 1) := by decide +kernel
theorem d_L_stops_20 : decode b_L_stops 20 = .ok (.iconst 0, 1) := by decide +kernel
theorem d_L_stops_21 : decode b_L_stops 21 = .ok (.ireturn, 1) := by decide +kernel
theorem d_L_highest_0 : decode b_L_highest 0 = .ok (.aload 5, 2) := by decide +kernel
theorem d_L_highest_2 : decode b_L_highest 2 = .ok (.iconst 0, 1) := by decide +kernel
theorem d_L_highest_3 : decode b_L_highest 3 = .ok (.aload_n 0, 1) := by decide +kernel
theorem d_L_highest_4 : decode b_L_highest 4 = .ok (.iload_n 1, 1) := by decide +kernel
theorem d_L_highest_5 : decode b_L_highest 5 = .ok (.iload_n 2, 1) := by decide +kernel
theorem d_L_highest_6 : decode b_L_highest 6 = .ok (.iload_n 3, 1) := by decide +kernel
theorem d_L_highest_7 : decode b_L_highest 7 = .ok (.iload 4, 2) := by decide +kernel
theorem d_L_highest_9 : decode b_L_highest 9 = .ok (.invokevirtual 28, 3) := by decide +kernel
theorem d_L_highest_12 : decode b_L_highest 12 = .ok (.lastore, 1) := by decide +kernel
theorem d_L_highest_13 : decode b_L_highest 13 = .ok (.goto 7, 3) := by decide +kernel
theorem d_L_highest_16 : decode b_L_highest 16 = .ok (.astore 6, 2) := by decide +kernel
theorem d_L_highest_18 : decode b_L_highest 18 = .ok (.iconst 1, 1) := by decide +kernel
theorem d_L_highest_19 : decode b_L_highest 19 = .ok (.ireturn, 1) := by decide +kernel
theorem d_L_highest_20 : decode b_L_highest 20 = .ok (.iconst 0, 1) := by decide +kernel
theorem d_L_highest_21 : decode b_L_highest 21 = .ok (.ireturn, 1) := by decide +kernel
theorem d_L_trip_0 : decode b_L_trip 0 = .ok (.aload 5, 2) := by decide +kernel
theorem d_L_trip_2 : decode b_L_trip 2 = .ok (.iconst 0, 1) := by decide +kernel
theorem d_L_trip_3 : decode b_L_trip 3 = .ok (.aload_n 0, 1) := by decide +kernel
theorem d_L_trip_4 : decode b_L_trip 4 = .ok (.iload_n 1, 1) := by decide +kernel
theorem d_L_trip_5 : decode b_L_trip 5 = .ok (.iload_n 2, 1) := by decide +kernel
theorem d_L_trip_6 : decode b_L_trip 6 = .ok (.iload_n 3, 1) := by decide +kernel
theorem d_L_trip_7 : decode b_L_trip 7 = .ok (.iload 4, 2) := by decide +kernel
theorem d_L_trip_9 : decode b_L_trip 9 = .ok (.invokevirtual 31, 3) := by decide +kernel
theorem d_L_trip_12 : decode b_L_trip 12 = .ok (.lastore, 1) := by decide +kernel
theorem d_L_trip_13 : decode b_L_trip 13 = .ok (.goto 7, 3) := by decide +kernel
theorem d_L_trip_16 : decode b_L_trip 16 = .ok (.astore 6, 2) := by decide +kernel
theorem d_L_trip_18 : decode b_L_trip 18 = .ok (.iconst 1, 1) := by decide +kernel
theorem d_L_trip_19 : decode b_L_trip 19 = .ok (.ireturn, 1) := by decide +kernel
theorem d_L_trip_20 : decode b_L_trip 20 = .ok (.iconst 0, 1) := by decide +kernel
theorem d_L_trip_21 : decode b_L_trip 21 = .ok (.ireturn, 1) := by decide +kernel
theorem d_L_compare_0 : decode b_L_compare 0 = .ok (.aload 5, 2) := by decide +kernel
theorem d_L_compare_2 : decode b_L_compare 2 = .ok (.iconst 0, 1) := by decide +kernel
theorem d_L_compare_3 : decode b_L_compare 3 = .ok (.aload_n 0, 1) := by decide +kernel
theorem d_L_compare_4 : decode b_L_compare 4 = .ok (.iload_n 1, 1) := by decide +kernel
theorem d_L_compare_5 : decode b_L_compare 5 = .ok (.iload_n 2, 1) := by decide +kernel
theorem d_L_compare_6 : decode b_L_compare 6 = .ok (.iload_n 3, 1) := by decide +kernel
theorem d_L_compare_7 : decode b_L_compare 7 = .ok (.iload 4, 2) := by decide +kernel
theorem d_L_compare_9 : decode b_L_compare 9 = .ok (.invokevirtual 34, 3) := by decide +kernel
theorem d_L_compare_12 : decode b_L_compare 12 = .ok (.i2l, 1) := by decide +kernel
theorem d_L_compare_13 : decode b_L_compare 13 = .ok (.lastore, 1) := by decide +kernel
theorem d_L_compare_14 : decode b_L_compare 14 = .ok (.goto 7, 3) := by decide +kernel
theorem d_L_compare_17 : decode b_L_compare 17 = .ok (.astore 6, 2) := by decide +kernel
theorem d_L_compare_19 : decode b_L_compare 19 = .ok (.iconst 1, 1) := by decide +kernel
theorem d_L_compare_20 : decode b_L_compare 20 = .ok (.ireturn, 1) := by decide +kernel
theorem d_L_compare_21 : decode b_L_compare 21 = .ok (.iconst 0, 1) := by decide +kernel
theorem d_L_compare_22 : decode b_L_compare 22 = .ok (.ireturn, 1) := by decide +kernel
theorem d_L_carried_0 : decode b_L_carried 0 = .ok (.aload_n 3, 1) := by decide +kernel
theorem d_L_carried_1 : decode b_L_carried 1 = .ok (.iconst 0, 1) := by decide +kernel
theorem d_L_carried_2 : decode b_L_carried 2 = .ok (.aload_n 0, 1) := by decide +kernel
theorem d_L_carried_3 : decode b_L_carried 3 = .ok (.iload_n 1, 1) := by decide +kernel
theorem d_L_carried_4 : decode b_L_carried 4 = .ok (.iload_n 2, 1) := by decide +kernel
theorem d_L_carried_5 : decode b_L_carried 5 = .ok (.invokevirtual 38, 3) := by decide +kernel
theorem d_L_carried_8 : decode b_L_carried 8 = .ok (.lastore, 1) := by decide +kernel
theorem d_L_carried_9 : decode b_L_carried 9 = .ok (.goto 11, 3) := by decide +kernel
theorem d_L_carried_12 : decode b_L_carried 12 = .ok (.astore 4, 2) := by decide +kernel
theorem d_L_carried_14 : decode b_L_carried 14 = .ok (.iconst 1, 1) := by decide +kernel
theorem d_L_carried_15 : decode b_L_carried 15 = .ok (.ireturn, 1) := by decide +kernel
theorem d_L_carried_16 : decode b_L_carried 16 = .ok (.astore 4, 2) := by decide +kernel
theorem d_L_carried_18 : decode b_L_carried 18 = .ok (.iconst 2, 1) := by decide +kernel
theorem d_L_carried_19 : decode b_L_carried 19 = .ok (.ireturn, 1) := by decide +kernel
theorem d_L_carried_20 : decode b_L_carried 20 = .ok (.iconst 0, 1) := by decide +kernel
theorem d_L_carried_21 : decode b_L_carried 21 = .ok (.ireturn, 1) := by decide +kernel
theorem d_L_cheapest_0 : decode b_L_cheapest 0 = .ok (.aload_n 2, 1) := by decide +kernel
theorem d_L_cheapest_1 : decode b_L_cheapest 1 = .ok (.iconst 0, 1) := by decide +kernel
theorem d_L_cheapest_2 : decode b_L_cheapest 2 = .ok (.aload_n 0, 1) := by decide +kernel
theorem d_L_cheapest_3 : decode b_L_cheapest 3 = .ok (.iload_n 1, 1) := by decide +kernel
theorem d_L_cheapest_4 : decode b_L_cheapest 4 = .ok (.invokevirtual 42, 3) := by decide +kernel
theorem d_L_cheapest_7 : decode b_L_cheapest 7 = .ok (.i2l, 1) := by decide +kernel
theorem d_L_cheapest_8 : decode b_L_cheapest 8 = .ok (.lastore, 1) := by decide +kernel
theorem d_L_cheapest_9 : decode b_L_cheapest 9 = .ok (.goto 9, 3) := by decide +kernel
theorem d_L_cheapest_12 : decode b_L_cheapest 12 = .ok (.astore_n 3, 1) := by decide +kernel
theorem d_L_cheapest_13 : decode b_L_cheapest 13 = .ok (.iconst 1, 1) := by decide +kernel
theorem d_L_cheapest_14 : decode b_L_cheapest 14 = .ok (.ireturn, 1) := by decide +kernel
theorem d_L_cheapest_15 : decode b_L_cheapest 15 = .ok (.astore_n 3, 1) := by decide +kernel
theorem d_L_cheapest_16 : decode b_L_cheapest 16 = .ok (.iconst 2, 1) := by decide +kernel
theorem d_L_cheapest_17 : decode b_L_cheapest 17 = .ok (.ireturn, 1) := by decide +kernel
theorem d_L_cheapest_18 : decode b_L_cheapest 18 = .ok (.iconst 0, 1) := by decide +kernel
theorem d_L_cheapest_19 : decode b_L_cheapest 19 = .ok (.ireturn, 1) := by decide +kernel
theorem d_L_split_0 : decode b_L_split 0 = .ok (.aload 4, 2) := by decide +kernel
theorem d_L_split_2 : decode b_L_split 2 = .ok (.iconst 0, 1) := by decide +kernel
theorem d_L_split_3 : decode b_L_split 3 = .ok (.aload_n 0, 1) := by decide +kernel
theorem d_L_split_4 : decode b_L_split 4 = .ok (.iload_n 1, 1) := by decide +kernel
theorem d_L_split_5 : decode b_L_split 5 = .ok (.iload_n 2, 1) := by decide +kernel
theorem d_L_split_6 : decode b_L_split 6 = .ok (.iload_n 3, 1) := by decide +kernel
theorem d_L_split_7 : decode b_L_split 7 = .ok (.invokevirtual 46, 3) := by decide +kernel
theorem d_L_split_10 : decode b_L_split 10 = .ok (.i2l, 1) := by decide +kernel
theorem d_L_split_11 : decode b_L_split 11 = .ok (.lastore, 1) := by decide +kernel
theorem d_L_split_12 : decode b_L_split 12 = .ok (.goto 11, 3) := by decide +kernel
theorem d_L_split_15 : decode b_L_split 15 = .ok (.astore 5, 2) := by decide +kernel
theorem d_L_split_17 : decode b_L_split 17 = .ok (.iconst 1, 1) := by decide +kernel
theorem d_L_split_18 : decode b_L_split 18 = .ok (.ireturn, 1) := by decide +kernel
theorem d_L_split_19 : decode b_L_split 19 = .ok (.astore 5, 2) := by decide +kernel
theorem d_L_split_21 : decode b_L_split 21 = .ok (.iconst 2, 1) := by decide +kernel
theorem d_L_split_22 : decode b_L_split 22 = .ok (.ireturn, 1) := by decide +kernel
theorem d_L_split_23 : decode b_L_split 23 = .ok (.iconst 0, 1) := by decide +kernel
theorem d_L_split_24 : decode b_L_split 24 = .ok (.ireturn, 1) := by decide +kernel
theorem d_L_out_0 : decode b_L_out 0 = .ok (.aload_n 2, 1) := by decide +kernel
theorem d_L_out_1 : decode b_L_out 1 = .ok (.iconst 0, 1) := by decide +kernel
theorem d_L_out_2 : decode b_L_out 2 = .ok (.aload_n 0, 1) := by decide +kernel
theorem d_L_out_3 : decode b_L_out 3 = .ok (.iload_n 1, 1) := by decide +kernel
theorem d_L_out_4 : decode b_L_out 4 = .ok (.invokevirtual 50, 3) := by decide +kernel
theorem d_L_out_7 : decode b_L_out 7 = .ok (.i2l, 1) := by decide +kernel
theorem d_L_out_8 : decode b_L_out 8 = .ok (.lastore, 1) := by decide +kernel
theorem d_L_out_9 : decode b_L_out 9 = .ok (.goto 6, 3) := by decide +kernel
theorem d_L_out_12 : decode b_L_out 12 = .ok (.astore_n 3, 1) := by decide +kernel
theorem d_L_out_13 : decode b_L_out 13 = .ok (.iconst 1, 1) := by decide +kernel
theorem d_L_out_14 : decode b_L_out 14 = .ok (.ireturn, 1) := by decide +kernel
theorem d_L_out_15 : decode b_L_out 15 = .ok (.iconst 0, 1) := by decide +kernel
theorem d_L_out_16 : decode b_L_out 16 = .ok (.ireturn, 1) := by decide +kernel
theorem d_L_there_0 : decode b_L_there 0 = .ok (.aload 4, 2) := by decide +kernel
theorem d_L_there_2 : decode b_L_there 2 = .ok (.iconst 0, 1) := by decide +kernel
theorem d_L_there_3 : decode b_L_there 3 = .ok (.aload_n 0, 1) := by decide +kernel
theorem d_L_there_4 : decode b_L_there 4 = .ok (.iload_n 1, 1) := by decide +kernel
theorem d_L_there_5 : decode b_L_there 5 = .ok (.iload_n 2, 1) := by decide +kernel
theorem d_L_there_6 : decode b_L_there 6 = .ok (.iload_n 3, 1) := by decide +kernel
theorem d_L_there_7 : decode b_L_there 7 = .ok (.invokevirtual 53, 3) := by decide +kernel
theorem d_L_there_10 : decode b_L_there 10 = .ok (.i2l, 1) := by decide +kernel
theorem d_L_there_11 : decode b_L_there 11 = .ok (.lastore, 1) := by decide +kernel
theorem d_L_there_12 : decode b_L_there 12 = .ok (.goto 7, 3) := by decide +kernel
theorem d_L_there_15 : decode b_L_there 15 = .ok (.astore 5, 2) := by decide +kernel
theorem d_L_there_17 : decode b_L_there 17 = .ok (.iconst 1, 1) := by decide +kernel
theorem d_L_there_18 : decode b_L_there 18 = .ok (.ireturn, 1) := by decide +kernel
theorem d_L_there_19 : decode b_L_there 19 = .ok (.iconst 0, 1) := by decide +kernel
theorem d_L_there_20 : decode b_L_there 20 = .ok (.ireturn, 1) := by decide +kernel
theorem d_L_crowd_0 : decode b_L_crowd 0 = .ok (.aload_n 3, 1) := by decide +kernel
theorem d_L_crowd_1 : decode b_L_crowd 1 = .ok (.iconst 0, 1) := by decide +kernel
theorem d_L_crowd_2 : decode b_L_crowd 2 = .ok (.aload_n 0, 1) := by decide +kernel
theorem d_L_crowd_3 : decode b_L_crowd 3 = .ok (.iload_n 1, 1) := by decide +kernel
theorem d_L_crowd_4 : decode b_L_crowd 4 = .ok (.iload_n 2, 1) := by decide +kernel
theorem d_L_crowd_5 : decode b_L_crowd 5 = .ok (.invokevirtual 56, 3) := by decide +kernel
theorem d_L_crowd_8 : decode b_L_crowd 8 = .ok (.i2l, 1) := by decide +kernel
theorem d_L_crowd_9 : decode b_L_crowd 9 = .ok (.lastore, 1) := by decide +kernel
theorem d_L_crowd_10 : decode b_L_crowd 10 = .ok (.goto 7, 3) := by decide +kernel
theorem d_L_crowd_13 : decode b_L_crowd 13 = .ok (.astore 4, 2) := by decide +kernel
theorem d_L_crowd_15 : decode b_L_crowd 15 = .ok (.iconst 1, 1) := by decide +kernel
theorem d_L_crowd_16 : decode b_L_crowd 16 = .ok (.ireturn, 1) := by decide +kernel
theorem d_L_crowd_17 : decode b_L_crowd 17 = .ok (.iconst 0, 1) := by decide +kernel
theorem d_L_crowd_18 : decode b_L_crowd 18 = .ok (.ireturn, 1) := by decide +kernel
theorem d_L_law_0 : decode code 0 = .ok (.new 8, 3) := by decide +kernel
theorem d_L_law_3 : decode code 3 = .ok (.dup, 1) := by decide +kernel
theorem d_L_law_4 : decode code 4 = .ok (.invokespecial 59, 3) := by decide +kernel
theorem d_L_law_7 : decode code 7 = .ok (.astore_n 1, 1) := by decide +kernel
theorem d_L_law_8 : decode code 8 = .ok (.new 60, 3) := by decide +kernel
theorem d_L_law_11 : decode code 11 = .ok (.dup, 1) := by decide +kernel
theorem d_L_law_12 : decode code 12 = .ok (.invokespecial 62, 3) := by decide +kernel
theorem d_L_law_15 : decode code 15 = .ok (.astore_n 2, 1) := by decide +kernel
theorem d_L_law_16 : decode code 16 = .ok (.iconst 1, 1) := by decide +kernel
theorem d_L_law_17 : decode code 17 = .ok (.newarray .long, 2) := by decide +kernel
theorem d_L_law_19 : decode code 19 = .ok (.astore_n 3, 1) := by decide +kernel
theorem d_L_law_20 : decode code 20 = .ok (.iconst 0, 1) := by decide +kernel
theorem d_L_law_21 : decode code 21 = .ok (.istore 4, 2) := by decide +kernel
theorem d_L_law_23 : decode code 23 = .ok (.iload 4, 2) := by decide +kernel
theorem d_L_law_25 : decode code 25 = .ok (.aload_n 0, 1) := by decide +kernel
theorem d_L_law_26 : decode code 26 = .ok (.arraylength, 1) := by decide +kernel
theorem d_L_law_27 : decode code 27 = .ok (.bipush 6, 2) := by decide +kernel
theorem d_L_law_29 : decode code 29 = .ok (.isub, 1) := by decide +kernel
theorem d_L_law_30 : decode code 30 = .ok (.if_icmp .gt 1096, 3) := by decide +kernel
theorem d_L_law_33 : decode code 33 = .ok (.aload_n 0, 1) := by decide +kernel
theorem d_L_law_34 : decode code 34 = .ok (.iload 4, 2) := by decide +kernel
theorem d_L_law_36 : decode code 36 = .ok (.iaload, 1) := by decide +kernel
theorem d_L_law_37 : decode code 37 = .ok (.bipush 15, 2) := by decide +kernel
theorem d_L_law_39 : decode code 39 = .ok (.iand, 1) := by decide +kernel
theorem d_L_law_40 : decode code 40 = .ok (.tableswitch 1080 0 12 #[68, 136, 204, 308, 399, 490, 581, 673, 740, 796, 876, 932, 1012], 68) := by decide +kernel
theorem d_L_law_108 : decode code 108 = .ok (.aload_n 1, 1) := by decide +kernel
theorem d_L_law_109 : decode code 109 = .ok (.aload_n 0, 1) := by decide +kernel
theorem d_L_law_110 : decode code 110 = .ok (.iload 4, 2) := by decide +kernel
theorem d_L_law_112 : decode code 112 = .ok (.iconst 1, 1) := by decide +kernel
theorem d_L_law_113 : decode code 113 = .ok (.iadd, 1) := by decide +kernel
theorem d_L_law_114 : decode code 114 = .ok (.iaload, 1) := by decide +kernel
theorem d_L_law_115 : decode code 115 = .ok (.aload_n 0, 1) := by decide +kernel
theorem d_L_law_116 : decode code 116 = .ok (.iload 4, 2) := by decide +kernel
theorem d_L_law_118 : decode code 118 = .ok (.iconst 2, 1) := by decide +kernel
theorem d_L_law_119 : decode code 119 = .ok (.iadd, 1) := by decide +kernel
theorem d_L_law_120 : decode code 120 = .ok (.iaload, 1) := by decide +kernel
theorem d_L_law_121 : decode code 121 = .ok (.aload_n 3, 1) := by decide +kernel
theorem d_L_law_122 : decode code 122 = .ok (.invokestatic 63, 3) := by decide +kernel
theorem d_L_law_125 : decode code 125 = .ok (.istore 5, 2) := by decide +kernel
theorem d_L_law_127 : decode code 127 = .ok (.aload_n 2, 1) := by decide +kernel
theorem d_L_law_128 : decode code 128 = .ok (.aload_n 0, 1) := by decide +kernel
theorem d_L_law_129 : decode code 129 = .ok (.iload 4, 2) := by decide +kernel
theorem d_L_law_131 : decode code 131 = .ok (.iconst 1, 1) := by decide +kernel
theorem d_L_law_132 : decode code 132 = .ok (.iadd, 1) := by decide +kernel
theorem d_L_law_133 : decode code 133 = .ok (.iaload, 1) := by decide +kernel
theorem d_L_law_134 : decode code 134 = .ok (.aload_n 0, 1) := by decide +kernel
theorem d_L_law_135 : decode code 135 = .ok (.iload 4, 2) := by decide +kernel
theorem d_L_law_137 : decode code 137 = .ok (.iconst 2, 1) := by decide +kernel
theorem d_L_law_138 : decode code 138 = .ok (.iadd, 1) := by decide +kernel
theorem d_L_law_139 : decode code 139 = .ok (.iaload, 1) := by decide +kernel
theorem d_L_law_140 : decode code 140 = .ok (.invokevirtual 68, 3) := by decide +kernel
theorem d_L_law_143 : decode code 143 = .ok (.istore 6, 2) := by decide +kernel
theorem d_L_law_145 : decode code 145 = .ok (.aload_n 2, 1) := by decide +kernel
theorem d_L_law_146 : decode code 146 = .ok (.invokevirtual 69, 3) := by decide +kernel
theorem d_L_law_149 : decode code 149 = .ok (.iload 5, 2) := by decide +kernel
theorem d_L_law_151 : decode code 151 = .ok (.if_icmp .eq 5, 3) := by decide +kernel
theorem d_L_law_154 : decode code 154 = .ok (.iconst 0, 1) := by decide +kernel
theorem d_L_law_155 : decode code 155 = .ok (.ireturn, 1) := by decide +kernel
theorem d_L_law_156 : decode code 156 = .ok (.iload 5, 2) := by decide +kernel
theorem d_L_law_158 : decode code 158 = .ok (.ifCond .ne 15, 3) := by decide +kernel
theorem d_L_law_161 : decode code 161 = .ok (.aload_n 3, 1) := by decide +kernel
theorem d_L_law_162 : decode code 162 = .ok (.iconst 0, 1) := by decide +kernel
theorem d_L_law_163 : decode code 163 = .ok (.laload, 1) := by decide +kernel
theorem d_L_law_164 : decode code 164 = .ok (.iload 6, 2) := by decide +kernel
theorem d_L_law_166 : decode code 166 = .ok (.i2l, 1) := by decide +kernel
theorem d_L_law_167 : decode code 167 = .ok (.lcmp, 1) := by decide +kernel
theorem d_L_law_168 : decode code 168 = .ok (.ifCond .eq 5, 3) := by decide +kernel
theorem d_L_law_171 : decode code 171 = .ok (.iconst 0, 1) := by decide +kernel
theorem d_L_law_172 : decode code 172 = .ok (.ireturn, 1) := by decide +kernel
theorem d_L_law_173 : decode code 173 = .ok (.goto 947, 3) := by decide +kernel
theorem d_L_law_176 : decode code 176 = .ok (.aload_n 1, 1) := by decide +kernel
theorem d_L_law_177 : decode code 177 = .ok (.aload_n 0, 1) := by decide +kernel
theorem d_L_law_178 : decode code 178 = .ok (.iload 4, 2) := by decide +kernel
theorem d_L_law_180 : decode code 180 = .ok (.iconst 1, 1) := by decide +kernel
theorem d_L_law_181 : decode code 181 = .ok (.iadd, 1) := by decide +kernel
theorem d_L_law_182 : decode code 182 = .ok (.iaload, 1) := by decide +kernel
theorem d_L_law_183 : decode code 183 = .ok (.aload_n 0, 1) := by decide +kernel
theorem d_L_law_184 : decode code 184 = .ok (.iload 4, 2) := by decide +kernel
theorem d_L_law_186 : decode code 186 = .ok (.iconst 2, 1) := by decide +kernel
theorem d_L_law_187 : decode code 187 = .ok (.iadd, 1) := by decide +kernel
theorem d_L_law_188 : decode code 188 = .ok (.iaload, 1) := by decide +kernel
theorem d_L_law_189 : decode code 189 = .ok (.aload_n 3, 1) := by decide +kernel
theorem d_L_law_190 : decode code 190 = .ok (.invokestatic 73, 3) := by decide +kernel
theorem d_L_law_193 : decode code 193 = .ok (.istore 5, 2) := by decide +kernel
theorem d_L_law_195 : decode code 195 = .ok (.aload_n 2, 1) := by decide +kernel
theorem d_L_law_196 : decode code 196 = .ok (.aload_n 0, 1) := by decide +kernel
theorem d_L_law_197 : decode code 197 = .ok (.iload 4, 2) := by decide +kernel
theorem d_L_law_199 : decode code 199 = .ok (.iconst 1, 1) := by decide +kernel
theorem d_L_law_200 : decode code 200 = .ok (.iadd, 1) := by decide +kernel
theorem d_L_law_201 : decode code 201 = .ok (.iaload, 1) := by decide +kernel
theorem d_L_law_202 : decode code 202 = .ok (.aload_n 0, 1) := by decide +kernel
theorem d_L_law_203 : decode code 203 = .ok (.iload 4, 2) := by decide +kernel
theorem d_L_law_205 : decode code 205 = .ok (.iconst 2, 1) := by decide +kernel
theorem d_L_law_206 : decode code 206 = .ok (.iadd, 1) := by decide +kernel
theorem d_L_law_207 : decode code 207 = .ok (.iaload, 1) := by decide +kernel
theorem d_L_law_208 : decode code 208 = .ok (.invokevirtual 75, 3) := by decide +kernel
theorem d_L_law_211 : decode code 211 = .ok (.istore 6, 2) := by decide +kernel
theorem d_L_law_213 : decode code 213 = .ok (.aload_n 2, 1) := by decide +kernel
theorem d_L_law_214 : decode code 214 = .ok (.invokevirtual 69, 3) := by decide +kernel
theorem d_L_law_217 : decode code 217 = .ok (.iload 5, 2) := by decide +kernel
theorem d_L_law_219 : decode code 219 = .ok (.if_icmp .eq 5, 3) := by decide +kernel
theorem d_L_law_222 : decode code 222 = .ok (.iconst 0, 1) := by decide +kernel
theorem d_L_law_223 : decode code 223 = .ok (.ireturn, 1) := by decide +kernel
theorem d_L_law_224 : decode code 224 = .ok (.iload 5, 2) := by decide +kernel
theorem d_L_law_226 : decode code 226 = .ok (.ifCond .ne 15, 3) := by decide +kernel
theorem d_L_law_229 : decode code 229 = .ok (.aload_n 3, 1) := by decide +kernel
theorem d_L_law_230 : decode code 230 = .ok (.iconst 0, 1) := by decide +kernel
theorem d_L_law_231 : decode code 231 = .ok (.laload, 1) := by decide +kernel
theorem d_L_law_232 : decode code 232 = .ok (.iload 6, 2) := by decide +kernel
theorem d_L_law_234 : decode code 234 = .ok (.i2l, 1) := by decide +kernel
theorem d_L_law_235 : decode code 235 = .ok (.lcmp, 1) := by decide +kernel
theorem d_L_law_236 : decode code 236 = .ok (.ifCond .eq 5, 3) := by decide +kernel
theorem d_L_law_239 : decode code 239 = .ok (.iconst 0, 1) := by decide +kernel
theorem d_L_law_240 : decode code 240 = .ok (.ireturn, 1) := by decide +kernel
theorem d_L_law_241 : decode code 241 = .ok (.goto 879, 3) := by decide +kernel
theorem d_L_law_244 : decode code 244 = .ok (.aload_n 1, 1) := by decide +kernel
theorem d_L_law_245 : decode code 245 = .ok (.aload_n 0, 1) := by decide +kernel
theorem d_L_law_246 : decode code 246 = .ok (.iload 4, 2) := by decide +kernel
theorem d_L_law_248 : decode code 248 = .ok (.iconst 1, 1) := by decide +kernel
theorem d_L_law_249 : decode code 249 = .ok (.iadd, 1) := by decide +kernel
theorem d_L_law_250 : decode code 250 = .ok (.iaload, 1) := by decide +kernel
theorem d_L_law_251 : decode code 251 = .ok (.aload_n 0, 1) := by decide +kernel
theorem d_L_law_252 : decode code 252 = .ok (.iload 4, 2) := by decide +kernel
theorem d_L_law_254 : decode code 254 = .ok (.iconst 2, 1) := by decide +kernel
theorem d_L_law_255 : decode code 255 = .ok (.iadd, 1) := by decide +kernel
theorem d_L_law_256 : decode code 256 = .ok (.iaload, 1) := by decide +kernel
theorem d_L_law_257 : decode code 257 = .ok (.aload_n 0, 1) := by decide +kernel
theorem d_L_law_258 : decode code 258 = .ok (.iload 4, 2) := by decide +kernel
theorem d_L_law_260 : decode code 260 = .ok (.iconst 3, 1) := by decide +kernel
theorem d_L_law_261 : decode code 261 = .ok (.iadd, 1) := by decide +kernel
theorem d_L_law_262 : decode code 262 = .ok (.iaload, 1) := by decide +kernel
theorem d_L_law_263 : decode code 263 = .ok (.aload_n 0, 1) := by decide +kernel
theorem d_L_law_264 : decode code 264 = .ok (.iload 4, 2) := by decide +kernel
theorem d_L_law_266 : decode code 266 = .ok (.iconst 4, 1) := by decide +kernel
theorem d_L_law_267 : decode code 267 = .ok (.iadd, 1) := by decide +kernel
theorem d_L_law_268 : decode code 268 = .ok (.iaload, 1) := by decide +kernel
theorem d_L_law_269 : decode code 269 = .ok (.aload_n 0, 1) := by decide +kernel
theorem d_L_law_270 : decode code 270 = .ok (.iload 4, 2) := by decide +kernel
theorem d_L_law_272 : decode code 272 = .ok (.iconst 5, 1) := by decide +kernel
theorem d_L_law_273 : decode code 273 = .ok (.iadd, 1) := by decide +kernel
theorem d_L_law_274 : decode code 274 = .ok (.iaload, 1) := by decide +kernel
theorem d_L_law_275 : decode code 275 = .ok (.aload_n 3, 1) := by decide +kernel
theorem d_L_law_276 : decode code 276 = .ok (.invokestatic 76, 3) := by decide +kernel
theorem d_L_law_279 : decode code 279 = .ok (.istore 5, 2) := by decide +kernel
theorem d_L_law_281 : decode code 281 = .ok (.aload_n 2, 1) := by decide +kernel
theorem d_L_law_282 : decode code 282 = .ok (.aload_n 0, 1) := by decide +kernel
theorem d_L_law_283 : decode code 283 = .ok (.iload 4, 2) := by decide +kernel
theorem d_L_law_285 : decode code 285 = .ok (.iconst 1, 1) := by decide +kernel
theorem d_L_law_286 : decode code 286 = .ok (.iadd, 1) := by decide +kernel
theorem d_L_law_287 : decode code 287 = .ok (.iaload, 1) := by decide +kernel
theorem d_L_law_288 : decode code 288 = .ok (.aload_n 0, 1) := by decide +kernel
theorem d_L_law_289 : decode code 289 = .ok (.iload 4, 2) := by decide +kernel
theorem d_L_law_291 : decode code 291 = .ok (.iconst 2, 1) := by decide +kernel
theorem d_L_law_292 : decode code 292 = .ok (.iadd, 1) := by decide +kernel
theorem d_L_law_293 : decode code 293 = .ok (.iaload, 1) := by decide +kernel
theorem d_L_law_294 : decode code 294 = .ok (.aload_n 0, 1) := by decide +kernel
theorem d_L_law_295 : decode code 295 = .ok (.iload 4, 2) := by decide +kernel
theorem d_L_law_297 : decode code 297 = .ok (.iconst 3, 1) := by decide +kernel
theorem d_L_law_298 : decode code 298 = .ok (.iadd, 1) := by decide +kernel
theorem d_L_law_299 : decode code 299 = .ok (.iaload, 1) := by decide +kernel
theorem d_L_law_300 : decode code 300 = .ok (.aload_n 0, 1) := by decide +kernel
theorem d_L_law_301 : decode code 301 = .ok (.iload 4, 2) := by decide +kernel
theorem d_L_law_303 : decode code 303 = .ok (.iconst 4, 1) := by decide +kernel
theorem d_L_law_304 : decode code 304 = .ok (.iadd, 1) := by decide +kernel
theorem d_L_law_305 : decode code 305 = .ok (.iaload, 1) := by decide +kernel
theorem d_L_law_306 : decode code 306 = .ok (.aload_n 0, 1) := by decide +kernel
theorem d_L_law_307 : decode code 307 = .ok (.iload 4, 2) := by decide +kernel
theorem d_L_law_309 : decode code 309 = .ok (.iconst 5, 1) := by decide +kernel
theorem d_L_law_310 : decode code 310 = .ok (.iadd, 1) := by decide +kernel
theorem d_L_law_311 : decode code 311 = .ok (.iaload, 1) := by decide +kernel
theorem d_L_law_312 : decode code 312 = .ok (.invokevirtual 79, 3) := by decide +kernel
theorem d_L_law_315 : decode code 315 = .ok (.istore 6, 2) := by decide +kernel
theorem d_L_law_317 : decode code 317 = .ok (.aload_n 2, 1) := by decide +kernel
theorem d_L_law_318 : decode code 318 = .ok (.invokevirtual 69, 3) := by decide +kernel
theorem d_L_law_321 : decode code 321 = .ok (.iload 5, 2) := by decide +kernel
theorem d_L_law_323 : decode code 323 = .ok (.if_icmp .eq 5, 3) := by decide +kernel
theorem d_L_law_326 : decode code 326 = .ok (.iconst 0, 1) := by decide +kernel
theorem d_L_law_327 : decode code 327 = .ok (.ireturn, 1) := by decide +kernel
theorem d_L_law_328 : decode code 328 = .ok (.iload 5, 2) := by decide +kernel
theorem d_L_law_330 : decode code 330 = .ok (.ifCond .ne 15, 3) := by decide +kernel
theorem d_L_law_333 : decode code 333 = .ok (.aload_n 3, 1) := by decide +kernel
theorem d_L_law_334 : decode code 334 = .ok (.iconst 0, 1) := by decide +kernel
theorem d_L_law_335 : decode code 335 = .ok (.laload, 1) := by decide +kernel
theorem d_L_law_336 : decode code 336 = .ok (.iload 6, 2) := by decide +kernel
theorem d_L_law_338 : decode code 338 = .ok (.i2l, 1) := by decide +kernel
theorem d_L_law_339 : decode code 339 = .ok (.lcmp, 1) := by decide +kernel
theorem d_L_law_340 : decode code 340 = .ok (.ifCond .eq 5, 3) := by decide +kernel
theorem d_L_law_343 : decode code 343 = .ok (.iconst 0, 1) := by decide +kernel
theorem d_L_law_344 : decode code 344 = .ok (.ireturn, 1) := by decide +kernel
theorem d_L_law_345 : decode code 345 = .ok (.goto 775, 3) := by decide +kernel
theorem d_L_law_348 : decode code 348 = .ok (.aload_n 1, 1) := by decide +kernel
theorem d_L_law_349 : decode code 349 = .ok (.aload_n 0, 1) := by decide +kernel
theorem d_L_law_350 : decode code 350 = .ok (.iload 4, 2) := by decide +kernel
theorem d_L_law_352 : decode code 352 = .ok (.iconst 1, 1) := by decide +kernel
theorem d_L_law_353 : decode code 353 = .ok (.iadd, 1) := by decide +kernel
theorem d_L_law_354 : decode code 354 = .ok (.iaload, 1) := by decide +kernel
theorem d_L_law_355 : decode code 355 = .ok (.aload_n 0, 1) := by decide +kernel
theorem d_L_law_356 : decode code 356 = .ok (.iload 4, 2) := by decide +kernel
theorem d_L_law_358 : decode code 358 = .ok (.iconst 2, 1) := by decide +kernel
theorem d_L_law_359 : decode code 359 = .ok (.iadd, 1) := by decide +kernel
theorem d_L_law_360 : decode code 360 = .ok (.iaload, 1) := by decide +kernel
theorem d_L_law_361 : decode code 361 = .ok (.aload_n 0, 1) := by decide +kernel
theorem d_L_law_362 : decode code 362 = .ok (.iload 4, 2) := by decide +kernel
theorem d_L_law_364 : decode code 364 = .ok (.iconst 3, 1) := by decide +kernel
theorem d_L_law_365 : decode code 365 = .ok (.iadd, 1) := by decide +kernel
theorem d_L_law_366 : decode code 366 = .ok (.iaload, 1) := by decide +kernel
theorem d_L_law_367 : decode code 367 = .ok (.aload_n 0, 1) := by decide +kernel
theorem d_L_law_368 : decode code 368 = .ok (.iload 4, 2) := by decide +kernel
theorem d_L_law_370 : decode code 370 = .ok (.iconst 4, 1) := by decide +kernel
theorem d_L_law_371 : decode code 371 = .ok (.iadd, 1) := by decide +kernel
theorem d_L_law_372 : decode code 372 = .ok (.iaload, 1) := by decide +kernel
theorem d_L_law_373 : decode code 373 = .ok (.aload_n 3, 1) := by decide +kernel
theorem d_L_law_374 : decode code 374 = .ok (.invokestatic 80, 3) := by decide +kernel
theorem d_L_law_377 : decode code 377 = .ok (.istore 5, 2) := by decide +kernel
theorem d_L_law_379 : decode code 379 = .ok (.aload_n 2, 1) := by decide +kernel
theorem d_L_law_380 : decode code 380 = .ok (.aload_n 0, 1) := by decide +kernel
theorem d_L_law_381 : decode code 381 = .ok (.iload 4, 2) := by decide +kernel
theorem d_L_law_383 : decode code 383 = .ok (.iconst 1, 1) := by decide +kernel
theorem d_L_law_384 : decode code 384 = .ok (.iadd, 1) := by decide +kernel
theorem d_L_law_385 : decode code 385 = .ok (.iaload, 1) := by decide +kernel
theorem d_L_law_386 : decode code 386 = .ok (.aload_n 0, 1) := by decide +kernel
theorem d_L_law_387 : decode code 387 = .ok (.iload 4, 2) := by decide +kernel
theorem d_L_law_389 : decode code 389 = .ok (.iconst 2, 1) := by decide +kernel
theorem d_L_law_390 : decode code 390 = .ok (.iadd, 1) := by decide +kernel
theorem d_L_law_391 : decode code 391 = .ok (.iaload, 1) := by decide +kernel
theorem d_L_law_392 : decode code 392 = .ok (.aload_n 0, 1) := by decide +kernel
theorem d_L_law_393 : decode code 393 = .ok (.iload 4, 2) := by decide +kernel
theorem d_L_law_395 : decode code 395 = .ok (.iconst 3, 1) := by decide +kernel
theorem d_L_law_396 : decode code 396 = .ok (.iadd, 1) := by decide +kernel
theorem d_L_law_397 : decode code 397 = .ok (.iaload, 1) := by decide +kernel
theorem d_L_law_398 : decode code 398 = .ok (.aload_n 0, 1) := by decide +kernel
theorem d_L_law_399 : decode code 399 = .ok (.iload 4, 2) := by decide +kernel
theorem d_L_law_401 : decode code 401 = .ok (.iconst 4, 1) := by decide +kernel
theorem d_L_law_402 : decode code 402 = .ok (.iadd, 1) := by decide +kernel
theorem d_L_law_403 : decode code 403 = .ok (.iaload, 1) := by decide +kernel
theorem d_L_law_404 : decode code 404 = .ok (.invokevirtual 83, 3) := by decide +kernel
theorem d_L_law_407 : decode code 407 = .ok (.lstore 6, 2) := by decide +kernel
theorem d_L_law_409 : decode code 409 = .ok (.aload_n 2, 1) := by decide +kernel
theorem d_L_law_410 : decode code 410 = .ok (.invokevirtual 69, 3) := by decide +kernel
theorem d_L_law_413 : decode code 413 = .ok (.iload 5, 2) := by decide +kernel
theorem d_L_law_415 : decode code 415 = .ok (.if_icmp .eq 5, 3) := by decide +kernel
theorem d_L_law_418 : decode code 418 = .ok (.iconst 0, 1) := by decide +kernel
theorem d_L_law_419 : decode code 419 = .ok (.ireturn, 1) := by decide +kernel
theorem d_L_law_420 : decode code 420 = .ok (.iload 5, 2) := by decide +kernel
theorem d_L_law_422 : decode code 422 = .ok (.ifCond .ne 14, 3) := by decide +kernel
theorem d_L_law_425 : decode code 425 = .ok (.aload_n 3, 1) := by decide +kernel
theorem d_L_law_426 : decode code 426 = .ok (.iconst 0, 1) := by decide +kernel
theorem d_L_law_427 : decode code 427 = .ok (.laload, 1) := by decide +kernel
theorem d_L_law_428 : decode code 428 = .ok (.lload 6, 2) := by decide +kernel
theorem d_L_law_430 : decode code 430 = .ok (.lcmp, 1) := by decide +kernel
theorem d_L_law_431 : decode code 431 = .ok (.ifCond .eq 5, 3) := by decide +kernel
theorem d_L_law_434 : decode code 434 = .ok (.iconst 0, 1) := by decide +kernel
theorem d_L_law_435 : decode code 435 = .ok (.ireturn, 1) := by decide +kernel
theorem d_L_law_436 : decode code 436 = .ok (.goto 684, 3) := by decide +kernel
theorem d_L_law_439 : decode code 439 = .ok (.aload_n 1, 1) := by decide +kernel
theorem d_L_law_440 : decode code 440 = .ok (.aload_n 0, 1) := by decide +kernel
theorem d_L_law_441 : decode code 441 = .ok (.iload 4, 2) := by decide +kernel
theorem d_L_law_443 : decode code 443 = .ok (.iconst 1, 1) := by decide +kernel
theorem d_L_law_444 : decode code 444 = .ok (.iadd, 1) := by decide +kernel
theorem d_L_law_445 : decode code 445 = .ok (.iaload, 1) := by decide +kernel
theorem d_L_law_446 : decode code 446 = .ok (.aload_n 0, 1) := by decide +kernel
theorem d_L_law_447 : decode code 447 = .ok (.iload 4, 2) := by decide +kernel
theorem d_L_law_449 : decode code 449 = .ok (.iconst 2, 1) := by decide +kernel
theorem d_L_law_450 : decode code 450 = .ok (.iadd, 1) := by decide +kernel
theorem d_L_law_451 : decode code 451 = .ok (.iaload, 1) := by decide +kernel
theorem d_L_law_452 : decode code 452 = .ok (.aload_n 0, 1) := by decide +kernel
theorem d_L_law_453 : decode code 453 = .ok (.iload 4, 2) := by decide +kernel
theorem d_L_law_455 : decode code 455 = .ok (.iconst 3, 1) := by decide +kernel
theorem d_L_law_456 : decode code 456 = .ok (.iadd, 1) := by decide +kernel
theorem d_L_law_457 : decode code 457 = .ok (.iaload, 1) := by decide +kernel
theorem d_L_law_458 : decode code 458 = .ok (.aload_n 0, 1) := by decide +kernel
theorem d_L_law_459 : decode code 459 = .ok (.iload 4, 2) := by decide +kernel
theorem d_L_law_461 : decode code 461 = .ok (.iconst 4, 1) := by decide +kernel
theorem d_L_law_462 : decode code 462 = .ok (.iadd, 1) := by decide +kernel
theorem d_L_law_463 : decode code 463 = .ok (.iaload, 1) := by decide +kernel
theorem d_L_law_464 : decode code 464 = .ok (.aload_n 3, 1) := by decide +kernel
theorem d_L_law_465 : decode code 465 = .ok (.invokestatic 84, 3) := by decide +kernel
theorem d_L_law_468 : decode code 468 = .ok (.istore 5, 2) := by decide +kernel
theorem d_L_law_470 : decode code 470 = .ok (.aload_n 2, 1) := by decide +kernel
theorem d_L_law_471 : decode code 471 = .ok (.aload_n 0, 1) := by decide +kernel
theorem d_L_law_472 : decode code 472 = .ok (.iload 4, 2) := by decide +kernel
theorem d_L_law_474 : decode code 474 = .ok (.iconst 1, 1) := by decide +kernel
theorem d_L_law_475 : decode code 475 = .ok (.iadd, 1) := by decide +kernel
theorem d_L_law_476 : decode code 476 = .ok (.iaload, 1) := by decide +kernel
theorem d_L_law_477 : decode code 477 = .ok (.aload_n 0, 1) := by decide +kernel
theorem d_L_law_478 : decode code 478 = .ok (.iload 4, 2) := by decide +kernel
theorem d_L_law_480 : decode code 480 = .ok (.iconst 2, 1) := by decide +kernel
theorem d_L_law_481 : decode code 481 = .ok (.iadd, 1) := by decide +kernel
theorem d_L_law_482 : decode code 482 = .ok (.iaload, 1) := by decide +kernel
theorem d_L_law_483 : decode code 483 = .ok (.aload_n 0, 1) := by decide +kernel
theorem d_L_law_484 : decode code 484 = .ok (.iload 4, 2) := by decide +kernel
theorem d_L_law_486 : decode code 486 = .ok (.iconst 3, 1) := by decide +kernel
theorem d_L_law_487 : decode code 487 = .ok (.iadd, 1) := by decide +kernel
theorem d_L_law_488 : decode code 488 = .ok (.iaload, 1) := by decide +kernel
theorem d_L_law_489 : decode code 489 = .ok (.aload_n 0, 1) := by decide +kernel
theorem d_L_law_490 : decode code 490 = .ok (.iload 4, 2) := by decide +kernel
theorem d_L_law_492 : decode code 492 = .ok (.iconst 4, 1) := by decide +kernel
theorem d_L_law_493 : decode code 493 = .ok (.iadd, 1) := by decide +kernel
theorem d_L_law_494 : decode code 494 = .ok (.iaload, 1) := by decide +kernel
theorem d_L_law_495 : decode code 495 = .ok (.invokevirtual 86, 3) := by decide +kernel
theorem d_L_law_498 : decode code 498 = .ok (.lstore 6, 2) := by decide +kernel
theorem d_L_law_500 : decode code 500 = .ok (.aload_n 2, 1) := by decide +kernel
theorem d_L_law_501 : decode code 501 = .ok (.invokevirtual 69, 3) := by decide +kernel
theorem d_L_law_504 : decode code 504 = .ok (.iload 5, 2) := by decide +kernel
theorem d_L_law_506 : decode code 506 = .ok (.if_icmp .eq 5, 3) := by decide +kernel
theorem d_L_law_509 : decode code 509 = .ok (.iconst 0, 1) := by decide +kernel
theorem d_L_law_510 : decode code 510 = .ok (.ireturn, 1) := by decide +kernel
theorem d_L_law_511 : decode code 511 = .ok (.iload 5, 2) := by decide +kernel
theorem d_L_law_513 : decode code 513 = .ok (.ifCond .ne 14, 3) := by decide +kernel
theorem d_L_law_516 : decode code 516 = .ok (.aload_n 3, 1) := by decide +kernel
theorem d_L_law_517 : decode code 517 = .ok (.iconst 0, 1) := by decide +kernel
theorem d_L_law_518 : decode code 518 = .ok (.laload, 1) := by decide +kernel
theorem d_L_law_519 : decode code 519 = .ok (.lload 6, 2) := by decide +kernel
theorem d_L_law_521 : decode code 521 = .ok (.lcmp, 1) := by decide +kernel
theorem d_L_law_522 : decode code 522 = .ok (.ifCond .eq 5, 3) := by decide +kernel
theorem d_L_law_525 : decode code 525 = .ok (.iconst 0, 1) := by decide +kernel
theorem d_L_law_526 : decode code 526 = .ok (.ireturn, 1) := by decide +kernel
theorem d_L_law_527 : decode code 527 = .ok (.goto 593, 3) := by decide +kernel
theorem d_L_law_530 : decode code 530 = .ok (.aload_n 1, 1) := by decide +kernel
theorem d_L_law_531 : decode code 531 = .ok (.aload_n 0, 1) := by decide +kernel
theorem d_L_law_532 : decode code 532 = .ok (.iload 4, 2) := by decide +kernel
theorem d_L_law_534 : decode code 534 = .ok (.iconst 1, 1) := by decide +kernel
theorem d_L_law_535 : decode code 535 = .ok (.iadd, 1) := by decide +kernel
theorem d_L_law_536 : decode code 536 = .ok (.iaload, 1) := by decide +kernel
theorem d_L_law_537 : decode code 537 = .ok (.aload_n 0, 1) := by decide +kernel
theorem d_L_law_538 : decode code 538 = .ok (.iload 4, 2) := by decide +kernel
theorem d_L_law_540 : decode code 540 = .ok (.iconst 2, 1) := by decide +kernel
theorem d_L_law_541 : decode code 541 = .ok (.iadd, 1) := by decide +kernel
theorem d_L_law_542 : decode code 542 = .ok (.iaload, 1) := by decide +kernel
theorem d_L_law_543 : decode code 543 = .ok (.aload_n 0, 1) := by decide +kernel
theorem d_L_law_544 : decode code 544 = .ok (.iload 4, 2) := by decide +kernel
theorem d_L_law_546 : decode code 546 = .ok (.iconst 3, 1) := by decide +kernel
theorem d_L_law_547 : decode code 547 = .ok (.iadd, 1) := by decide +kernel
theorem d_L_law_548 : decode code 548 = .ok (.iaload, 1) := by decide +kernel
theorem d_L_law_549 : decode code 549 = .ok (.aload_n 0, 1) := by decide +kernel
theorem d_L_law_550 : decode code 550 = .ok (.iload 4, 2) := by decide +kernel
theorem d_L_law_552 : decode code 552 = .ok (.iconst 4, 1) := by decide +kernel
theorem d_L_law_553 : decode code 553 = .ok (.iadd, 1) := by decide +kernel
theorem d_L_law_554 : decode code 554 = .ok (.iaload, 1) := by decide +kernel
theorem d_L_law_555 : decode code 555 = .ok (.aload_n 3, 1) := by decide +kernel
theorem d_L_law_556 : decode code 556 = .ok (.invokestatic 87, 3) := by decide +kernel
theorem d_L_law_559 : decode code 559 = .ok (.istore 5, 2) := by decide +kernel
theorem d_L_law_561 : decode code 561 = .ok (.aload_n 2, 1) := by decide +kernel
theorem d_L_law_562 : decode code 562 = .ok (.aload_n 0, 1) := by decide +kernel
theorem d_L_law_563 : decode code 563 = .ok (.iload 4, 2) := by decide +kernel
theorem d_L_law_565 : decode code 565 = .ok (.iconst 1, 1) := by decide +kernel
theorem d_L_law_566 : decode code 566 = .ok (.iadd, 1) := by decide +kernel
theorem d_L_law_567 : decode code 567 = .ok (.iaload, 1) := by decide +kernel
theorem d_L_law_568 : decode code 568 = .ok (.aload_n 0, 1) := by decide +kernel
theorem d_L_law_569 : decode code 569 = .ok (.iload 4, 2) := by decide +kernel
theorem d_L_law_571 : decode code 571 = .ok (.iconst 2, 1) := by decide +kernel
theorem d_L_law_572 : decode code 572 = .ok (.iadd, 1) := by decide +kernel
theorem d_L_law_573 : decode code 573 = .ok (.iaload, 1) := by decide +kernel
theorem d_L_law_574 : decode code 574 = .ok (.aload_n 0, 1) := by decide +kernel
theorem d_L_law_575 : decode code 575 = .ok (.iload 4, 2) := by decide +kernel
theorem d_L_law_577 : decode code 577 = .ok (.iconst 3, 1) := by decide +kernel
theorem d_L_law_578 : decode code 578 = .ok (.iadd, 1) := by decide +kernel
theorem d_L_law_579 : decode code 579 = .ok (.iaload, 1) := by decide +kernel
theorem d_L_law_580 : decode code 580 = .ok (.aload_n 0, 1) := by decide +kernel
theorem d_L_law_581 : decode code 581 = .ok (.iload 4, 2) := by decide +kernel
theorem d_L_law_583 : decode code 583 = .ok (.iconst 4, 1) := by decide +kernel
theorem d_L_law_584 : decode code 584 = .ok (.iadd, 1) := by decide +kernel
theorem d_L_law_585 : decode code 585 = .ok (.iaload, 1) := by decide +kernel
theorem d_L_law_586 : decode code 586 = .ok (.invokevirtual 89, 3) := by decide +kernel
theorem d_L_law_589 : decode code 589 = .ok (.lstore 6, 2) := by decide +kernel
theorem d_L_law_591 : decode code 591 = .ok (.aload_n 2, 1) := by decide +kernel
theorem d_L_law_592 : decode code 592 = .ok (.invokevirtual 69, 3) := by decide +kernel
theorem d_L_law_595 : decode code 595 = .ok (.iload 5, 2) := by decide +kernel
theorem d_L_law_597 : decode code 597 = .ok (.if_icmp .eq 5, 3) := by decide +kernel
theorem d_L_law_600 : decode code 600 = .ok (.iconst 0, 1) := by decide +kernel
theorem d_L_law_601 : decode code 601 = .ok (.ireturn, 1) := by decide +kernel
theorem d_L_law_602 : decode code 602 = .ok (.iload 5, 2) := by decide +kernel
theorem d_L_law_604 : decode code 604 = .ok (.ifCond .ne 14, 3) := by decide +kernel
theorem d_L_law_607 : decode code 607 = .ok (.aload_n 3, 1) := by decide +kernel
theorem d_L_law_608 : decode code 608 = .ok (.iconst 0, 1) := by decide +kernel
theorem d_L_law_609 : decode code 609 = .ok (.laload, 1) := by decide +kernel
theorem d_L_law_610 : decode code 610 = .ok (.lload 6, 2) := by decide +kernel
theorem d_L_law_612 : decode code 612 = .ok (.lcmp, 1) := by decide +kernel
theorem d_L_law_613 : decode code 613 = .ok (.ifCond .eq 5, 3) := by decide +kernel
theorem d_L_law_616 : decode code 616 = .ok (.iconst 0, 1) := by decide +kernel
theorem d_L_law_617 : decode code 617 = .ok (.ireturn, 1) := by decide +kernel
theorem d_L_law_618 : decode code 618 = .ok (.goto 502, 3) := by decide +kernel
theorem d_L_law_621 : decode code 621 = .ok (.aload_n 1, 1) := by decide +kernel
theorem d_L_law_622 : decode code 622 = .ok (.aload_n 0, 1) := by decide +kernel
theorem d_L_law_623 : decode code 623 = .ok (.iload 4, 2) := by decide +kernel
theorem d_L_law_625 : decode code 625 = .ok (.iconst 1, 1) := by decide +kernel
theorem d_L_law_626 : decode code 626 = .ok (.iadd, 1) := by decide +kernel
theorem d_L_law_627 : decode code 627 = .ok (.iaload, 1) := by decide +kernel
theorem d_L_law_628 : decode code 628 = .ok (.aload_n 0, 1) := by decide +kernel
theorem d_L_law_629 : decode code 629 = .ok (.iload 4, 2) := by decide +kernel
theorem d_L_law_631 : decode code 631 = .ok (.iconst 2, 1) := by decide +kernel
theorem d_L_law_632 : decode code 632 = .ok (.iadd, 1) := by decide +kernel
theorem d_L_law_633 : decode code 633 = .ok (.iaload, 1) := by decide +kernel
theorem d_L_law_634 : decode code 634 = .ok (.aload_n 0, 1) := by decide +kernel
theorem d_L_law_635 : decode code 635 = .ok (.iload 4, 2) := by decide +kernel
theorem d_L_law_637 : decode code 637 = .ok (.iconst 3, 1) := by decide +kernel
theorem d_L_law_638 : decode code 638 = .ok (.iadd, 1) := by decide +kernel
theorem d_L_law_639 : decode code 639 = .ok (.iaload, 1) := by decide +kernel
theorem d_L_law_640 : decode code 640 = .ok (.aload_n 0, 1) := by decide +kernel
theorem d_L_law_641 : decode code 641 = .ok (.iload 4, 2) := by decide +kernel
theorem d_L_law_643 : decode code 643 = .ok (.iconst 4, 1) := by decide +kernel
theorem d_L_law_644 : decode code 644 = .ok (.iadd, 1) := by decide +kernel
theorem d_L_law_645 : decode code 645 = .ok (.iaload, 1) := by decide +kernel
theorem d_L_law_646 : decode code 646 = .ok (.aload_n 3, 1) := by decide +kernel
theorem d_L_law_647 : decode code 647 = .ok (.invokestatic 90, 3) := by decide +kernel
theorem d_L_law_650 : decode code 650 = .ok (.istore 5, 2) := by decide +kernel
theorem d_L_law_652 : decode code 652 = .ok (.aload_n 2, 1) := by decide +kernel
theorem d_L_law_653 : decode code 653 = .ok (.aload_n 0, 1) := by decide +kernel
theorem d_L_law_654 : decode code 654 = .ok (.iload 4, 2) := by decide +kernel
theorem d_L_law_656 : decode code 656 = .ok (.iconst 1, 1) := by decide +kernel
theorem d_L_law_657 : decode code 657 = .ok (.iadd, 1) := by decide +kernel
theorem d_L_law_658 : decode code 658 = .ok (.iaload, 1) := by decide +kernel
theorem d_L_law_659 : decode code 659 = .ok (.aload_n 0, 1) := by decide +kernel
theorem d_L_law_660 : decode code 660 = .ok (.iload 4, 2) := by decide +kernel
theorem d_L_law_662 : decode code 662 = .ok (.iconst 2, 1) := by decide +kernel
theorem d_L_law_663 : decode code 663 = .ok (.iadd, 1) := by decide +kernel
theorem d_L_law_664 : decode code 664 = .ok (.iaload, 1) := by decide +kernel
theorem d_L_law_665 : decode code 665 = .ok (.aload_n 0, 1) := by decide +kernel
theorem d_L_law_666 : decode code 666 = .ok (.iload 4, 2) := by decide +kernel
theorem d_L_law_668 : decode code 668 = .ok (.iconst 3, 1) := by decide +kernel
theorem d_L_law_669 : decode code 669 = .ok (.iadd, 1) := by decide +kernel
theorem d_L_law_670 : decode code 670 = .ok (.iaload, 1) := by decide +kernel
theorem d_L_law_671 : decode code 671 = .ok (.aload_n 0, 1) := by decide +kernel
theorem d_L_law_672 : decode code 672 = .ok (.iload 4, 2) := by decide +kernel
theorem d_L_law_674 : decode code 674 = .ok (.iconst 4, 1) := by decide +kernel
theorem d_L_law_675 : decode code 675 = .ok (.iadd, 1) := by decide +kernel
theorem d_L_law_676 : decode code 676 = .ok (.iaload, 1) := by decide +kernel
theorem d_L_law_677 : decode code 677 = .ok (.invokevirtual 92, 3) := by decide +kernel
theorem d_L_law_680 : decode code 680 = .ok (.istore 6, 2) := by decide +kernel
theorem d_L_law_682 : decode code 682 = .ok (.aload_n 2, 1) := by decide +kernel
theorem d_L_law_683 : decode code 683 = .ok (.invokevirtual 69, 3) := by decide +kernel
theorem d_L_law_686 : decode code 686 = .ok (.iload 5, 2) := by decide +kernel
theorem d_L_law_688 : decode code 688 = .ok (.if_icmp .eq 5, 3) := by decide +kernel
theorem d_L_law_691 : decode code 691 = .ok (.iconst 0, 1) := by decide +kernel
theorem d_L_law_692 : decode code 692 = .ok (.ireturn, 1) := by decide +kernel
theorem d_L_law_693 : decode code 693 = .ok (.iload 5, 2) := by decide +kernel
theorem d_L_law_695 : decode code 695 = .ok (.ifCond .ne 15, 3) := by decide +kernel
theorem d_L_law_698 : decode code 698 = .ok (.aload_n 3, 1) := by decide +kernel
theorem d_L_law_699 : decode code 699 = .ok (.iconst 0, 1) := by decide +kernel
theorem d_L_law_700 : decode code 700 = .ok (.laload, 1) := by decide +kernel
theorem d_L_law_701 : decode code 701 = .ok (.iload 6, 2) := by decide +kernel
theorem d_L_law_703 : decode code 703 = .ok (.i2l, 1) := by decide +kernel
theorem d_L_law_704 : decode code 704 = .ok (.lcmp, 1) := by decide +kernel
theorem d_L_law_705 : decode code 705 = .ok (.ifCond .eq 5, 3) := by decide +kernel
theorem d_L_law_708 : decode code 708 = .ok (.iconst 0, 1) := by decide +kernel
theorem d_L_law_709 : decode code 709 = .ok (.ireturn, 1) := by decide +kernel
theorem d_L_law_710 : decode code 710 = .ok (.goto 410, 3) := by decide +kernel
theorem d_L_law_713 : decode code 713 = .ok (.aload_n 1, 1) := by decide +kernel
theorem d_L_law_714 : decode code 714 = .ok (.aload_n 0, 1) := by decide +kernel
theorem d_L_law_715 : decode code 715 = .ok (.iload 4, 2) := by decide +kernel
theorem d_L_law_717 : decode code 717 = .ok (.iconst 1, 1) := by decide +kernel
theorem d_L_law_718 : decode code 718 = .ok (.iadd, 1) := by decide +kernel
theorem d_L_law_719 : decode code 719 = .ok (.iaload, 1) := by decide +kernel
theorem d_L_law_720 : decode code 720 = .ok (.aload_n 0, 1) := by decide +kernel
theorem d_L_law_721 : decode code 721 = .ok (.iload 4, 2) := by decide +kernel
theorem d_L_law_723 : decode code 723 = .ok (.iconst 2, 1) := by decide +kernel
theorem d_L_law_724 : decode code 724 = .ok (.iadd, 1) := by decide +kernel
theorem d_L_law_725 : decode code 725 = .ok (.iaload, 1) := by decide +kernel
theorem d_L_law_726 : decode code 726 = .ok (.aload_n 3, 1) := by decide +kernel
theorem d_L_law_727 : decode code 727 = .ok (.invokestatic 93, 3) := by decide +kernel
theorem d_L_law_730 : decode code 730 = .ok (.istore 5, 2) := by decide +kernel
theorem d_L_law_732 : decode code 732 = .ok (.aload_n 2, 1) := by decide +kernel
theorem d_L_law_733 : decode code 733 = .ok (.aload_n 0, 1) := by decide +kernel
theorem d_L_law_734 : decode code 734 = .ok (.iload 4, 2) := by decide +kernel
theorem d_L_law_736 : decode code 736 = .ok (.iconst 1, 1) := by decide +kernel
theorem d_L_law_737 : decode code 737 = .ok (.iadd, 1) := by decide +kernel
theorem d_L_law_738 : decode code 738 = .ok (.iaload, 1) := by decide +kernel
theorem d_L_law_739 : decode code 739 = .ok (.aload_n 0, 1) := by decide +kernel
theorem d_L_law_740 : decode code 740 = .ok (.iload 4, 2) := by decide +kernel
theorem d_L_law_742 : decode code 742 = .ok (.iconst 2, 1) := by decide +kernel
theorem d_L_law_743 : decode code 743 = .ok (.iadd, 1) := by decide +kernel
theorem d_L_law_744 : decode code 744 = .ok (.iaload, 1) := by decide +kernel
theorem d_L_law_745 : decode code 745 = .ok (.invokevirtual 95, 3) := by decide +kernel
theorem d_L_law_748 : decode code 748 = .ok (.lstore 6, 2) := by decide +kernel
theorem d_L_law_750 : decode code 750 = .ok (.aload_n 2, 1) := by decide +kernel
theorem d_L_law_751 : decode code 751 = .ok (.invokevirtual 69, 3) := by decide +kernel
theorem d_L_law_754 : decode code 754 = .ok (.iload 5, 2) := by decide +kernel
theorem d_L_law_756 : decode code 756 = .ok (.if_icmp .eq 5, 3) := by decide +kernel
theorem d_L_law_759 : decode code 759 = .ok (.iconst 0, 1) := by decide +kernel
theorem d_L_law_760 : decode code 760 = .ok (.ireturn, 1) := by decide +kernel
theorem d_L_law_761 : decode code 761 = .ok (.iload 5, 2) := by decide +kernel
theorem d_L_law_763 : decode code 763 = .ok (.ifCond .ne 14, 3) := by decide +kernel
theorem d_L_law_766 : decode code 766 = .ok (.aload_n 3, 1) := by decide +kernel
theorem d_L_law_767 : decode code 767 = .ok (.iconst 0, 1) := by decide +kernel
theorem d_L_law_768 : decode code 768 = .ok (.laload, 1) := by decide +kernel
theorem d_L_law_769 : decode code 769 = .ok (.lload 6, 2) := by decide +kernel
theorem d_L_law_771 : decode code 771 = .ok (.lcmp, 1) := by decide +kernel
theorem d_L_law_772 : decode code 772 = .ok (.ifCond .eq 5, 3) := by decide +kernel
theorem d_L_law_775 : decode code 775 = .ok (.iconst 0, 1) := by decide +kernel
theorem d_L_law_776 : decode code 776 = .ok (.ireturn, 1) := by decide +kernel
theorem d_L_law_777 : decode code 777 = .ok (.goto 343, 3) := by decide +kernel
theorem d_L_law_780 : decode code 780 = .ok (.aload_n 1, 1) := by decide +kernel
theorem d_L_law_781 : decode code 781 = .ok (.aload_n 0, 1) := by decide +kernel
theorem d_L_law_782 : decode code 782 = .ok (.iload 4, 2) := by decide +kernel
theorem d_L_law_784 : decode code 784 = .ok (.iconst 1, 1) := by decide +kernel
theorem d_L_law_785 : decode code 785 = .ok (.iadd, 1) := by decide +kernel
theorem d_L_law_786 : decode code 786 = .ok (.iaload, 1) := by decide +kernel
theorem d_L_law_787 : decode code 787 = .ok (.aload_n 3, 1) := by decide +kernel
theorem d_L_law_788 : decode code 788 = .ok (.invokestatic 96, 3) := by decide +kernel
theorem d_L_law_791 : decode code 791 = .ok (.istore 5, 2) := by decide +kernel
theorem d_L_law_793 : decode code 793 = .ok (.aload_n 2, 1) := by decide +kernel
theorem d_L_law_794 : decode code 794 = .ok (.aload_n 0, 1) := by decide +kernel
theorem d_L_law_795 : decode code 795 = .ok (.iload 4, 2) := by decide +kernel
theorem d_L_law_797 : decode code 797 = .ok (.iconst 1, 1) := by decide +kernel
theorem d_L_law_798 : decode code 798 = .ok (.iadd, 1) := by decide +kernel
theorem d_L_law_799 : decode code 799 = .ok (.iaload, 1) := by decide +kernel
theorem d_L_law_800 : decode code 800 = .ok (.invokevirtual 99, 3) := by decide +kernel
theorem d_L_law_803 : decode code 803 = .ok (.istore 6, 2) := by decide +kernel
theorem d_L_law_805 : decode code 805 = .ok (.aload_n 2, 1) := by decide +kernel
theorem d_L_law_806 : decode code 806 = .ok (.invokevirtual 69, 3) := by decide +kernel
theorem d_L_law_809 : decode code 809 = .ok (.iload 5, 2) := by decide +kernel
theorem d_L_law_811 : decode code 811 = .ok (.if_icmp .eq 5, 3) := by decide +kernel
theorem d_L_law_814 : decode code 814 = .ok (.iconst 0, 1) := by decide +kernel
theorem d_L_law_815 : decode code 815 = .ok (.ireturn, 1) := by decide +kernel
theorem d_L_law_816 : decode code 816 = .ok (.iload 5, 2) := by decide +kernel
theorem d_L_law_818 : decode code 818 = .ok (.ifCond .ne 15, 3) := by decide +kernel
theorem d_L_law_821 : decode code 821 = .ok (.aload_n 3, 1) := by decide +kernel
theorem d_L_law_822 : decode code 822 = .ok (.iconst 0, 1) := by decide +kernel
theorem d_L_law_823 : decode code 823 = .ok (.laload, 1) := by decide +kernel
theorem d_L_law_824 : decode code 824 = .ok (.iload 6, 2) := by decide +kernel
theorem d_L_law_826 : decode code 826 = .ok (.i2l, 1) := by decide +kernel
theorem d_L_law_827 : decode code 827 = .ok (.lcmp, 1) := by decide +kernel
theorem d_L_law_828 : decode code 828 = .ok (.ifCond .eq 5, 3) := by decide +kernel
theorem d_L_law_831 : decode code 831 = .ok (.iconst 0, 1) := by decide +kernel
theorem d_L_law_832 : decode code 832 = .ok (.ireturn, 1) := by decide +kernel
theorem d_L_law_833 : decode code 833 = .ok (.goto 287, 3) := by decide +kernel
theorem d_L_law_836 : decode code 836 = .ok (.aload_n 1, 1) := by decide +kernel
theorem d_L_law_837 : decode code 837 = .ok (.aload_n 0, 1) := by decide +kernel
theorem d_L_law_838 : decode code 838 = .ok (.iload 4, 2) := by decide +kernel
theorem d_L_law_840 : decode code 840 = .ok (.iconst 1, 1) := by decide +kernel
theorem d_L_law_841 : decode code 841 = .ok (.iadd, 1) := by decide +kernel
theorem d_L_law_842 : decode code 842 = .ok (.iaload, 1) := by decide +kernel
theorem d_L_law_843 : decode code 843 = .ok (.aload_n 0, 1) := by decide +kernel
theorem d_L_law_844 : decode code 844 = .ok (.iload 4, 2) := by decide +kernel
theorem d_L_law_846 : decode code 846 = .ok (.iconst 2, 1) := by decide +kernel
theorem d_L_law_847 : decode code 847 = .ok (.iadd, 1) := by decide +kernel
theorem d_L_law_848 : decode code 848 = .ok (.iaload, 1) := by decide +kernel
theorem d_L_law_849 : decode code 849 = .ok (.aload_n 0, 1) := by decide +kernel
theorem d_L_law_850 : decode code 850 = .ok (.iload 4, 2) := by decide +kernel
theorem d_L_law_852 : decode code 852 = .ok (.iconst 3, 1) := by decide +kernel
theorem d_L_law_853 : decode code 853 = .ok (.iadd, 1) := by decide +kernel
theorem d_L_law_854 : decode code 854 = .ok (.iaload, 1) := by decide +kernel
theorem d_L_law_855 : decode code 855 = .ok (.aload_n 3, 1) := by decide +kernel
theorem d_L_law_856 : decode code 856 = .ok (.invokestatic 100, 3) := by decide +kernel
theorem d_L_law_859 : decode code 859 = .ok (.istore 5, 2) := by decide +kernel
theorem d_L_law_861 : decode code 861 = .ok (.aload_n 2, 1) := by decide +kernel
theorem d_L_law_862 : decode code 862 = .ok (.aload_n 0, 1) := by decide +kernel
theorem d_L_law_863 : decode code 863 = .ok (.iload 4, 2) := by decide +kernel
theorem d_L_law_865 : decode code 865 = .ok (.iconst 1, 1) := by decide +kernel
theorem d_L_law_866 : decode code 866 = .ok (.iadd, 1) := by decide +kernel
theorem d_L_law_867 : decode code 867 = .ok (.iaload, 1) := by decide +kernel
theorem d_L_law_868 : decode code 868 = .ok (.aload_n 0, 1) := by decide +kernel
theorem d_L_law_869 : decode code 869 = .ok (.iload 4, 2) := by decide +kernel
theorem d_L_law_871 : decode code 871 = .ok (.iconst 2, 1) := by decide +kernel
theorem d_L_law_872 : decode code 872 = .ok (.iadd, 1) := by decide +kernel
theorem d_L_law_873 : decode code 873 = .ok (.iaload, 1) := by decide +kernel
theorem d_L_law_874 : decode code 874 = .ok (.aload_n 0, 1) := by decide +kernel
theorem d_L_law_875 : decode code 875 = .ok (.iload 4, 2) := by decide +kernel
theorem d_L_law_877 : decode code 877 = .ok (.iconst 3, 1) := by decide +kernel
theorem d_L_law_878 : decode code 878 = .ok (.iadd, 1) := by decide +kernel
theorem d_L_law_879 : decode code 879 = .ok (.iaload, 1) := by decide +kernel
theorem d_L_law_880 : decode code 880 = .ok (.invokevirtual 103, 3) := by decide +kernel
theorem d_L_law_883 : decode code 883 = .ok (.istore 6, 2) := by decide +kernel
theorem d_L_law_885 : decode code 885 = .ok (.aload_n 2, 1) := by decide +kernel
theorem d_L_law_886 : decode code 886 = .ok (.invokevirtual 69, 3) := by decide +kernel
theorem d_L_law_889 : decode code 889 = .ok (.iload 5, 2) := by decide +kernel
theorem d_L_law_891 : decode code 891 = .ok (.if_icmp .eq 5, 3) := by decide +kernel
theorem d_L_law_894 : decode code 894 = .ok (.iconst 0, 1) := by decide +kernel
theorem d_L_law_895 : decode code 895 = .ok (.ireturn, 1) := by decide +kernel
theorem d_L_law_896 : decode code 896 = .ok (.iload 5, 2) := by decide +kernel
theorem d_L_law_898 : decode code 898 = .ok (.ifCond .ne 15, 3) := by decide +kernel
theorem d_L_law_901 : decode code 901 = .ok (.aload_n 3, 1) := by decide +kernel
theorem d_L_law_902 : decode code 902 = .ok (.iconst 0, 1) := by decide +kernel
theorem d_L_law_903 : decode code 903 = .ok (.laload, 1) := by decide +kernel
theorem d_L_law_904 : decode code 904 = .ok (.iload 6, 2) := by decide +kernel
theorem d_L_law_906 : decode code 906 = .ok (.i2l, 1) := by decide +kernel
theorem d_L_law_907 : decode code 907 = .ok (.lcmp, 1) := by decide +kernel
theorem d_L_law_908 : decode code 908 = .ok (.ifCond .eq 5, 3) := by decide +kernel
theorem d_L_law_911 : decode code 911 = .ok (.iconst 0, 1) := by decide +kernel
theorem d_L_law_912 : decode code 912 = .ok (.ireturn, 1) := by decide +kernel
theorem d_L_law_913 : decode code 913 = .ok (.goto 207, 3) := by decide +kernel
theorem d_L_law_916 : decode code 916 = .ok (.aload_n 1, 1) := by decide +kernel
theorem d_L_law_917 : decode code 917 = .ok (.aload_n 0, 1) := by decide +kernel
theorem d_L_law_918 : decode code 918 = .ok (.iload 4, 2) := by decide +kernel
theorem d_L_law_920 : decode code 920 = .ok (.iconst 1, 1) := by decide +kernel
theorem d_L_law_921 : decode code 921 = .ok (.iadd, 1) := by decide +kernel
theorem d_L_law_922 : decode code 922 = .ok (.iaload, 1) := by decide +kernel
theorem d_L_law_923 : decode code 923 = .ok (.aload_n 3, 1) := by decide +kernel
theorem d_L_law_924 : decode code 924 = .ok (.invokestatic 104, 3) := by decide +kernel
theorem d_L_law_927 : decode code 927 = .ok (.istore 5, 2) := by decide +kernel
theorem d_L_law_929 : decode code 929 = .ok (.aload_n 2, 1) := by decide +kernel
theorem d_L_law_930 : decode code 930 = .ok (.aload_n 0, 1) := by decide +kernel
theorem d_L_law_931 : decode code 931 = .ok (.iload 4, 2) := by decide +kernel
theorem d_L_law_933 : decode code 933 = .ok (.iconst 1, 1) := by decide +kernel
theorem d_L_law_934 : decode code 934 = .ok (.iadd, 1) := by decide +kernel
theorem d_L_law_935 : decode code 935 = .ok (.iaload, 1) := by decide +kernel
theorem d_L_law_936 : decode code 936 = .ok (.invokevirtual 106, 3) := by decide +kernel
theorem d_L_law_939 : decode code 939 = .ok (.istore 6, 2) := by decide +kernel
theorem d_L_law_941 : decode code 941 = .ok (.aload_n 2, 1) := by decide +kernel
theorem d_L_law_942 : decode code 942 = .ok (.invokevirtual 69, 3) := by decide +kernel
theorem d_L_law_945 : decode code 945 = .ok (.iload 5, 2) := by decide +kernel
theorem d_L_law_947 : decode code 947 = .ok (.if_icmp .eq 5, 3) := by decide +kernel
theorem d_L_law_950 : decode code 950 = .ok (.iconst 0, 1) := by decide +kernel
theorem d_L_law_951 : decode code 951 = .ok (.ireturn, 1) := by decide +kernel
theorem d_L_law_952 : decode code 952 = .ok (.iload 5, 2) := by decide +kernel
theorem d_L_law_954 : decode code 954 = .ok (.ifCond .ne 15, 3) := by decide +kernel
theorem d_L_law_957 : decode code 957 = .ok (.aload_n 3, 1) := by decide +kernel
theorem d_L_law_958 : decode code 958 = .ok (.iconst 0, 1) := by decide +kernel
theorem d_L_law_959 : decode code 959 = .ok (.laload, 1) := by decide +kernel
theorem d_L_law_960 : decode code 960 = .ok (.iload 6, 2) := by decide +kernel
theorem d_L_law_962 : decode code 962 = .ok (.i2l, 1) := by decide +kernel
theorem d_L_law_963 : decode code 963 = .ok (.lcmp, 1) := by decide +kernel
theorem d_L_law_964 : decode code 964 = .ok (.ifCond .eq 5, 3) := by decide +kernel
theorem d_L_law_967 : decode code 967 = .ok (.iconst 0, 1) := by decide +kernel
theorem d_L_law_968 : decode code 968 = .ok (.ireturn, 1) := by decide +kernel
theorem d_L_law_969 : decode code 969 = .ok (.goto 151, 3) := by decide +kernel
theorem d_L_law_972 : decode code 972 = .ok (.aload_n 1, 1) := by decide +kernel
theorem d_L_law_973 : decode code 973 = .ok (.aload_n 0, 1) := by decide +kernel
theorem d_L_law_974 : decode code 974 = .ok (.iload 4, 2) := by decide +kernel
theorem d_L_law_976 : decode code 976 = .ok (.iconst 1, 1) := by decide +kernel
theorem d_L_law_977 : decode code 977 = .ok (.iadd, 1) := by decide +kernel
theorem d_L_law_978 : decode code 978 = .ok (.iaload, 1) := by decide +kernel
theorem d_L_law_979 : decode code 979 = .ok (.aload_n 0, 1) := by decide +kernel
theorem d_L_law_980 : decode code 980 = .ok (.iload 4, 2) := by decide +kernel
theorem d_L_law_982 : decode code 982 = .ok (.iconst 2, 1) := by decide +kernel
theorem d_L_law_983 : decode code 983 = .ok (.iadd, 1) := by decide +kernel
theorem d_L_law_984 : decode code 984 = .ok (.iaload, 1) := by decide +kernel
theorem d_L_law_985 : decode code 985 = .ok (.aload_n 0, 1) := by decide +kernel
theorem d_L_law_986 : decode code 986 = .ok (.iload 4, 2) := by decide +kernel
theorem d_L_law_988 : decode code 988 = .ok (.iconst 3, 1) := by decide +kernel
theorem d_L_law_989 : decode code 989 = .ok (.iadd, 1) := by decide +kernel
theorem d_L_law_990 : decode code 990 = .ok (.iaload, 1) := by decide +kernel
theorem d_L_law_991 : decode code 991 = .ok (.aload_n 3, 1) := by decide +kernel
theorem d_L_law_992 : decode code 992 = .ok (.invokestatic 107, 3) := by decide +kernel
theorem d_L_law_995 : decode code 995 = .ok (.istore 5, 2) := by decide +kernel
theorem d_L_law_997 : decode code 997 = .ok (.aload_n 2, 1) := by decide +kernel
theorem d_L_law_998 : decode code 998 = .ok (.aload_n 0, 1) := by decide +kernel
theorem d_L_law_999 : decode code 999 = .ok (.iload 4, 2) := by decide +kernel
theorem d_L_law_1001 : decode code 1001 = .ok (.iconst 1, 1) := by decide +kernel
theorem d_L_law_1002 : decode code 1002 = .ok (.iadd, 1) := by decide +kernel
theorem d_L_law_1003 : decode code 1003 = .ok (.iaload, 1) := by decide +kernel
theorem d_L_law_1004 : decode code 1004 = .ok (.aload_n 0, 1) := by decide +kernel
theorem d_L_law_1005 : decode code 1005 = .ok (.iload 4, 2) := by decide +kernel
theorem d_L_law_1007 : decode code 1007 = .ok (.iconst 2, 1) := by decide +kernel
theorem d_L_law_1008 : decode code 1008 = .ok (.iadd, 1) := by decide +kernel
theorem d_L_law_1009 : decode code 1009 = .ok (.iaload, 1) := by decide +kernel
theorem d_L_law_1010 : decode code 1010 = .ok (.aload_n 0, 1) := by decide +kernel
theorem d_L_law_1011 : decode code 1011 = .ok (.iload 4, 2) := by decide +kernel
theorem d_L_law_1013 : decode code 1013 = .ok (.iconst 3, 1) := by decide +kernel
theorem d_L_law_1014 : decode code 1014 = .ok (.iadd, 1) := by decide +kernel
theorem d_L_law_1015 : decode code 1015 = .ok (.iaload, 1) := by decide +kernel
theorem d_L_law_1016 : decode code 1016 = .ok (.invokevirtual 109, 3) := by decide +kernel
theorem d_L_law_1019 : decode code 1019 = .ok (.istore 6, 2) := by decide +kernel
theorem d_L_law_1021 : decode code 1021 = .ok (.aload_n 2, 1) := by decide +kernel
theorem d_L_law_1022 : decode code 1022 = .ok (.invokevirtual 69, 3) := by decide +kernel
theorem d_L_law_1025 : decode code 1025 = .ok (.iload 5, 2) := by decide +kernel
theorem d_L_law_1027 : decode code 1027 = .ok (.if_icmp .eq 5, 3) := by decide +kernel
theorem d_L_law_1030 : decode code 1030 = .ok (.iconst 0, 1) := by decide +kernel
theorem d_L_law_1031 : decode code 1031 = .ok (.ireturn, 1) := by decide +kernel
theorem d_L_law_1032 : decode code 1032 = .ok (.iload 5, 2) := by decide +kernel
theorem d_L_law_1034 : decode code 1034 = .ok (.ifCond .ne 15, 3) := by decide +kernel
theorem d_L_law_1037 : decode code 1037 = .ok (.aload_n 3, 1) := by decide +kernel
theorem d_L_law_1038 : decode code 1038 = .ok (.iconst 0, 1) := by decide +kernel
theorem d_L_law_1039 : decode code 1039 = .ok (.laload, 1) := by decide +kernel
theorem d_L_law_1040 : decode code 1040 = .ok (.iload 6, 2) := by decide +kernel
theorem d_L_law_1042 : decode code 1042 = .ok (.i2l, 1) := by decide +kernel
theorem d_L_law_1043 : decode code 1043 = .ok (.lcmp, 1) := by decide +kernel
theorem d_L_law_1044 : decode code 1044 = .ok (.ifCond .eq 5, 3) := by decide +kernel
theorem d_L_law_1047 : decode code 1047 = .ok (.iconst 0, 1) := by decide +kernel
theorem d_L_law_1048 : decode code 1048 = .ok (.ireturn, 1) := by decide +kernel
theorem d_L_law_1049 : decode code 1049 = .ok (.goto 71, 3) := by decide +kernel
theorem d_L_law_1052 : decode code 1052 = .ok (.aload_n 1, 1) := by decide +kernel
theorem d_L_law_1053 : decode code 1053 = .ok (.aload_n 0, 1) := by decide +kernel
theorem d_L_law_1054 : decode code 1054 = .ok (.iload 4, 2) := by decide +kernel
theorem d_L_law_1056 : decode code 1056 = .ok (.iconst 1, 1) := by decide +kernel
theorem d_L_law_1057 : decode code 1057 = .ok (.iadd, 1) := by decide +kernel
theorem d_L_law_1058 : decode code 1058 = .ok (.iaload, 1) := by decide +kernel
theorem d_L_law_1059 : decode code 1059 = .ok (.aload_n 0, 1) := by decide +kernel
theorem d_L_law_1060 : decode code 1060 = .ok (.iload 4, 2) := by decide +kernel
theorem d_L_law_1062 : decode code 1062 = .ok (.iconst 2, 1) := by decide +kernel
theorem d_L_law_1063 : decode code 1063 = .ok (.iadd, 1) := by decide +kernel
theorem d_L_law_1064 : decode code 1064 = .ok (.iaload, 1) := by decide +kernel
theorem d_L_law_1065 : decode code 1065 = .ok (.aload_n 3, 1) := by decide +kernel
theorem d_L_law_1066 : decode code 1066 = .ok (.invokestatic 110, 3) := by decide +kernel
theorem d_L_law_1069 : decode code 1069 = .ok (.istore 5, 2) := by decide +kernel
theorem d_L_law_1071 : decode code 1071 = .ok (.aload_n 2, 1) := by decide +kernel
theorem d_L_law_1072 : decode code 1072 = .ok (.aload_n 0, 1) := by decide +kernel
theorem d_L_law_1073 : decode code 1073 = .ok (.iload 4, 2) := by decide +kernel
theorem d_L_law_1075 : decode code 1075 = .ok (.iconst 1, 1) := by decide +kernel
theorem d_L_law_1076 : decode code 1076 = .ok (.iadd, 1) := by decide +kernel
theorem d_L_law_1077 : decode code 1077 = .ok (.iaload, 1) := by decide +kernel
theorem d_L_law_1078 : decode code 1078 = .ok (.aload_n 0, 1) := by decide +kernel
theorem d_L_law_1079 : decode code 1079 = .ok (.iload 4, 2) := by decide +kernel
theorem d_L_law_1081 : decode code 1081 = .ok (.iconst 2, 1) := by decide +kernel
theorem d_L_law_1082 : decode code 1082 = .ok (.iadd, 1) := by decide +kernel
theorem d_L_law_1083 : decode code 1083 = .ok (.iaload, 1) := by decide +kernel
theorem d_L_law_1084 : decode code 1084 = .ok (.invokevirtual 112, 3) := by decide +kernel
theorem d_L_law_1087 : decode code 1087 = .ok (.istore 6, 2) := by decide +kernel
theorem d_L_law_1089 : decode code 1089 = .ok (.aload_n 2, 1) := by decide +kernel
theorem d_L_law_1090 : decode code 1090 = .ok (.invokevirtual 69, 3) := by decide +kernel
theorem d_L_law_1093 : decode code 1093 = .ok (.iload 5, 2) := by decide +kernel
theorem d_L_law_1095 : decode code 1095 = .ok (.if_icmp .eq 5, 3) := by decide +kernel
theorem d_L_law_1098 : decode code 1098 = .ok (.iconst 0, 1) := by decide +kernel
theorem d_L_law_1099 : decode code 1099 = .ok (.ireturn, 1) := by decide +kernel
theorem d_L_law_1100 : decode code 1100 = .ok (.iload 5, 2) := by decide +kernel
theorem d_L_law_1102 : decode code 1102 = .ok (.ifCond .ne 15, 3) := by decide +kernel
theorem d_L_law_1105 : decode code 1105 = .ok (.aload_n 3, 1) := by decide +kernel
theorem d_L_law_1106 : decode code 1106 = .ok (.iconst 0, 1) := by decide +kernel
theorem d_L_law_1107 : decode code 1107 = .ok (.laload, 1) := by decide +kernel
theorem d_L_law_1108 : decode code 1108 = .ok (.iload 6, 2) := by decide +kernel
theorem d_L_law_1110 : decode code 1110 = .ok (.i2l, 1) := by decide +kernel
theorem d_L_law_1111 : decode code 1111 = .ok (.lcmp, 1) := by decide +kernel
theorem d_L_law_1112 : decode code 1112 = .ok (.ifCond .eq 5, 3) := by decide +kernel
theorem d_L_law_1115 : decode code 1115 = .ok (.iconst 0, 1) := by decide +kernel
theorem d_L_law_1116 : decode code 1116 = .ok (.ireturn, 1) := by decide +kernel
theorem d_L_law_1117 : decode code 1117 = .ok (.goto 3, 3) := by decide +kernel
theorem d_L_law_1120 : decode code 1120 = .ok (.iinc 4 6, 3) := by decide +kernel
theorem d_L_law_1123 : decode code 1123 = .ok (.goto (-1100), 3) := by decide +kernel
theorem d_L_law_1126 : decode code 1126 = .ok (.iconst 1, 1) := by decide +kernel
theorem d_L_law_1127 : decode code 1127 = .ok (.ireturn, 1) := by decide +kernel
