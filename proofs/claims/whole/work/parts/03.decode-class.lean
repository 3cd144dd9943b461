theorem d_T_init_0 : decode b_T_init 0 = .ok (.aload_n 0, 1) := by decide +kernel
theorem d_T_init_1 : decode b_T_init 1 = .ok (.invokespecial 1, 3) := by decide +kernel
theorem d_T_init_4 : decode b_T_init 4 = .ok (.aload_n 0, 1) := by decide +kernel
theorem d_T_init_5 : decode b_T_init 5 = .ok (.new 7, 3) := by decide +kernel
theorem d_T_init_8 : decode b_T_init 8 = .ok (.dup, 1) := by decide +kernel
theorem d_T_init_9 : decode b_T_init 9 = .ok (.invokespecial 9, 3) := by decide +kernel
theorem d_T_init_12 : decode b_T_init 12 = .ok (.putfield 10, 3) := by decide +kernel
theorem d_T_init_15 : decode b_T_init 15 = .ok (.aload_n 0, 1) := by decide +kernel
theorem d_T_init_16 : decode b_T_init 16 = .ok (.bipush 6, 2) := by decide +kernel
theorem d_T_init_18 : decode b_T_init 18 = .ok (.anewarray 16, 3) := by decide +kernel
theorem d_T_init_21 : decode b_T_init 21 = .ok (.putfield 18, 3) := by decide +kernel
theorem d_T_init_24 : decode b_T_init 24 = .ok (.aload_n 0, 1) := by decide +kernel
theorem d_T_init_25 : decode b_T_init 25 = .ok (.iconst 0, 1) := by decide +kernel
theorem d_T_init_26 : decode b_T_init 26 = .ok (.putfield 22, 3) := by decide +kernel
theorem d_T_init_29 : decode b_T_init 29 = .ok (.aload_n 0, 1) := by decide +kernel
theorem d_T_init_30 : decode b_T_init 30 = .ok (.new 26, 3) := by decide +kernel
theorem d_T_init_33 : decode b_T_init 33 = .ok (.dup, 1) := by decide +kernel
theorem d_T_init_34 : decode b_T_init 34 = .ok (.invokespecial 28, 3) := by decide +kernel
theorem d_T_init_37 : decode b_T_init 37 = .ok (.putfield 29, 3) := by decide +kernel
theorem d_T_init_40 : decode b_T_init 40 = .ok (.aload_n 0, 1) := by decide +kernel
theorem d_T_init_41 : decode b_T_init 41 = .ok (.new 33, 3) := by decide +kernel
theorem d_T_init_44 : decode b_T_init 44 = .ok (.dup, 1) := by decide +kernel
theorem d_T_init_45 : decode b_T_init 45 = .ok (.invokespecial 35, 3) := by decide +kernel
theorem d_T_init_48 : decode b_T_init 48 = .ok (.putfield 36, 3) := by decide +kernel
theorem d_T_init_51 : decode b_T_init 51 = .ok (.aload_n 0, 1) := by decide +kernel
theorem d_T_init_52 : decode b_T_init 52 = .ok (.new 40, 3) := by decide +kernel
theorem d_T_init_55 : decode b_T_init 55 = .ok (.dup, 1) := by decide +kernel
theorem d_T_init_56 : decode b_T_init 56 = .ok (.invokespecial 42, 3) := by decide +kernel
theorem d_T_init_59 : decode b_T_init 59 = .ok (.putfield 43, 3) := by decide +kernel
theorem d_T_init_62 : decode b_T_init 62 = .ok (.return_, 1) := by decide +kernel
theorem d_T_floor_0 : decode b_T_floor 0 = .ok (.iload_n 1, 1) := by decide +kernel
theorem d_T_floor_1 : decode b_T_floor 1 = .ok (.iconst 0, 1) := by decide +kernel
theorem d_T_floor_2 : decode b_T_floor 2 = .ok (.sipush 200, 3) := by decide +kernel
theorem d_T_floor_5 : decode b_T_floor 5 = .ok (.invokestatic 47, 3) := by decide +kernel
theorem d_T_floor_8 : decode b_T_floor 8 = .ok (.iload_n 2, 1) := by decide +kernel
theorem d_T_floor_9 : decode b_T_floor 9 = .ok (.bipush 10, 2) := by decide +kernel
theorem d_T_floor_11 : decode b_T_floor 11 = .ok (.bipush 100, 2) := by decide +kernel
theorem d_T_floor_13 : decode b_T_floor 13 = .ok (.invokestatic 47, 3) := by decide +kernel
theorem d_T_floor_16 : decode b_T_floor 16 = .ok (.aload_n 0, 1) := by decide +kernel
theorem d_T_floor_17 : decode b_T_floor 17 = .ok (.getfield 10, 3) := by decide +kernel
theorem d_T_floor_20 : decode b_T_floor 20 = .ok (.getfield 51, 3) := by decide +kernel
theorem d_T_floor_23 : decode b_T_floor 23 = .ok (.bipush 12, 2) := by decide +kernel
theorem d_T_floor_25 : decode b_T_floor 25 = .ok (.if_icmp .lt 13, 3) := by decide +kernel
theorem d_T_floor_28 : decode b_T_floor 28 = .ok (.new 54, 3) := by decide +kernel
theorem d_T_floor_31 : decode b_T_floor 31 = .ok (.dup, 1) := by decide +kernel
theorem d_T_floor_32 : decode b_T_floor 32 = .ok (.ldc 56, 2) := by decide +kernel
theorem d_T_floor_34 : decode b_T_floor 34 = .ok (.invokespecial 58, 3) := by decide +kernel
theorem d_T_floor_37 : decode b_T_floor 37 = .ok (.athrow, 1) := by decide +kernel
theorem d_T_floor_38 : decode b_T_floor 38 = .ok (.aload_n 0, 1) := by decide +kernel
theorem d_T_floor_39 : decode b_T_floor 39 = .ok (.getfield 10, 3) := by decide +kernel
theorem d_T_floor_42 : decode b_T_floor 42 = .ok (.getfield 61, 3) := by decide +kernel
theorem d_T_floor_45 : decode b_T_floor 45 = .ok (.iload_n 1, 1) := by decide +kernel
theorem d_T_floor_46 : decode b_T_floor 46 = .ok (.iadd, 1) := by decide +kernel
theorem d_T_floor_47 : decode b_T_floor 47 = .ok (.invokestatic 64, 3) := by decide +kernel
theorem d_T_floor_50 : decode b_T_floor 50 = .ok (.aload_n 0, 1) := by decide +kernel
theorem d_T_floor_51 : decode b_T_floor 51 = .ok (.getfield 10, 3) := by decide +kernel
theorem d_T_floor_54 : decode b_T_floor 54 = .ok (.iload_n 1, 1) := by decide +kernel
theorem d_T_floor_55 : decode b_T_floor 55 = .ok (.iload_n 2, 1) := by decide +kernel
theorem d_T_floor_56 : decode b_T_floor 56 = .ok (.invokevirtual 68, 3) := by decide +kernel
theorem d_T_floor_59 : decode b_T_floor 59 = .ok (.ireturn, 1) := by decide +kernel
theorem d_T_persons_0 : decode b_T_persons 0 = .ok (.aload_n 0, 1) := by decide +kernel
theorem d_T_persons_1 : decode b_T_persons 1 = .ok (.iload_n 1, 1) := by decide +kernel
theorem d_T_persons_2 : decode b_T_persons 2 = .ok (.invokevirtual 72, 3) := by decide +kernel
theorem d_T_persons_5 : decode b_T_persons 5 = .ok (.iload_n 2, 1) := by decide +kernel
theorem d_T_persons_6 : decode b_T_persons 6 = .ok (.iconst 0, 1) := by decide +kernel
theorem d_T_persons_7 : decode b_T_persons 7 = .ok (.sipush 200, 3) := by decide +kernel
theorem d_T_persons_10 : decode b_T_persons 10 = .ok (.invokestatic 47, 3) := by decide +kernel
theorem d_T_persons_13 : decode b_T_persons 13 = .ok (.aload_n 0, 1) := by decide +kernel
theorem d_T_persons_14 : decode b_T_persons 14 = .ok (.getfield 10, 3) := by decide +kernel
theorem d_T_persons_17 : decode b_T_persons 17 = .ok (.getfield 75, 3) := by decide +kernel
theorem d_T_persons_20 : decode b_T_persons 20 = .ok (.iload_n 1, 1) := by decide +kernel
theorem d_T_persons_21 : decode b_T_persons 21 = .ok (.iaload, 1) := by decide +kernel
theorem d_T_persons_22 : decode b_T_persons 22 = .ok (.istore_n 3, 1) := by decide +kernel
theorem d_T_persons_23 : decode b_T_persons 23 = .ok (.aload_n 0, 1) := by decide +kernel
theorem d_T_persons_24 : decode b_T_persons 24 = .ok (.getfield 10, 3) := by decide +kernel
theorem d_T_persons_27 : decode b_T_persons 27 = .ok (.getfield 61, 3) := by decide +kernel
theorem d_T_persons_30 : decode b_T_persons 30 = .ok (.iload_n 3, 1) := by decide +kernel
theorem d_T_persons_31 : decode b_T_persons 31 = .ok (.isub, 1) := by decide +kernel
theorem d_T_persons_32 : decode b_T_persons 32 = .ok (.iload_n 2, 1) := by decide +kernel
theorem d_T_persons_33 : decode b_T_persons 33 = .ok (.iadd, 1) := by decide +kernel
theorem d_T_persons_34 : decode b_T_persons 34 = .ok (.invokestatic 64, 3) := by decide +kernel
theorem d_T_persons_37 : decode b_T_persons 37 = .ok (.aload_n 0, 1) := by decide +kernel
theorem d_T_persons_38 : decode b_T_persons 38 = .ok (.getfield 10, 3) := by decide +kernel
theorem d_T_persons_41 : decode b_T_persons 41 = .ok (.getfield 75, 3) := by decide +kernel
theorem d_T_persons_44 : decode b_T_persons 44 = .ok (.iload_n 1, 1) := by decide +kernel
theorem d_T_persons_45 : decode b_T_persons 45 = .ok (.iload_n 2, 1) := by decide +kernel
theorem d_T_persons_46 : decode b_T_persons 46 = .ok (.iastore, 1) := by decide +kernel
theorem d_T_persons_47 : decode b_T_persons 47 = .ok (.aload_n 0, 1) := by decide +kernel
theorem d_T_persons_48 : decode b_T_persons 48 = .ok (.getfield 10, 3) := by decide +kernel
theorem d_T_persons_51 : decode b_T_persons 51 = .ok (.dup, 1) := by decide +kernel
theorem d_T_persons_52 : decode b_T_persons 52 = .ok (.getfield 61, 3) := by decide +kernel
theorem d_T_persons_55 : decode b_T_persons 55 = .ok (.iload_n 2, 1) := by decide +kernel
theorem d_T_persons_56 : decode b_T_persons 56 = .ok (.iload_n 3, 1) := by decide +kernel
theorem d_T_persons_57 : decode b_T_persons 57 = .ok (.isub, 1) := by decide +kernel
theorem d_T_persons_58 : decode b_T_persons 58 = .ok (.iadd, 1) := by decide +kernel
theorem d_T_persons_59 : decode b_T_persons 59 = .ok (.putfield 61, 3) := by decide +kernel
theorem d_T_persons_62 : decode b_T_persons 62 = .ok (.iload_n 3, 1) := by decide +kernel
theorem d_T_persons_63 : decode b_T_persons 63 = .ok (.ireturn, 1) := by decide +kernel
theorem d_T_type_0 : decode b_T_type 0 = .ok (.iload_n 1, 1) := by decide +kernel
theorem d_T_type_1 : decode b_T_type 1 = .ok (.iconst 1, 1) := by decide +kernel
theorem d_T_type_2 : decode b_T_type 2 = .ok (.iconst 5, 1) := by decide +kernel
theorem d_T_type_3 : decode b_T_type 3 = .ok (.invokestatic 47, 3) := by decide +kernel
theorem d_T_type_6 : decode b_T_type 6 = .ok (.iload_n 2, 1) := by decide +kernel
theorem d_T_type_7 : decode b_T_type 7 = .ok (.iconst 1, 1) := by decide +kernel
theorem d_T_type_8 : decode b_T_type 8 = .ok (.bipush 100, 2) := by decide +kernel
theorem d_T_type_10 : decode b_T_type 10 = .ok (.invokestatic 47, 3) := by decide +kernel
theorem d_T_type_13 : decode b_T_type 13 = .ok (.iload_n 3, 1) := by decide +kernel
theorem d_T_type_14 : decode b_T_type 14 = .ok (.iconst 0, 1) := by decide +kernel
theorem d_T_type_15 : decode b_T_type 15 = .ok (.bipush 30, 2) := by decide +kernel
theorem d_T_type_17 : decode b_T_type 17 = .ok (.invokestatic 47, 3) := by decide +kernel
theorem d_T_type_20 : decode b_T_type 20 = .ok (.iload 4, 2) := by decide +kernel
theorem d_T_type_22 : decode b_T_type 22 = .ok (.iconst 0, 1) := by decide +kernel
theorem d_T_type_23 : decode b_T_type 23 = .ok (.bipush 10, 2) := by decide +kernel
theorem d_T_type_25 : decode b_T_type 25 = .ok (.invokestatic 47, 3) := by decide +kernel
theorem d_T_type_28 : decode b_T_type 28 = .ok (.iload 5, 2) := by decide +kernel
theorem d_T_type_30 : decode b_T_type 30 = .ok (.iconst 1, 1) := by decide +kernel
theorem d_T_type_31 : decode b_T_type 31 = .ok (.ldc 79, 2) := by decide +kernel
theorem d_T_type_33 : decode b_T_type 33 = .ok (.invokestatic 47, 3) := by decide +kernel
theorem d_T_type_36 : decode b_T_type 36 = .ok (.aload_n 0, 1) := by decide +kernel
theorem d_T_type_37 : decode b_T_type 37 = .ok (.getfield 22, 3) := by decide +kernel
theorem d_T_type_40 : decode b_T_type 40 = .ok (.istore 6, 2) := by decide +kernel
theorem d_T_type_42 : decode b_T_type 42 = .ok (.iload 6, 2) := by decide +kernel
theorem d_T_type_44 : decode b_T_type 44 = .ok (.bipush 6, 2) := by decide +kernel
theorem d_T_type_46 : decode b_T_type 46 = .ok (.if_icmp .lt 13, 3) := by decide +kernel
theorem d_T_type_49 : decode b_T_type 49 = .ok (.new 54, 3) := by decide +kernel
theorem d_T_type_52 : decode b_T_type 52 = .ok (.dup, 1) := by decide +kernel
theorem d_T_type_53 : decode b_T_type 53 = .ok (.ldc 80, 2) := by decide +kernel
theorem d_T_type_55 : decode b_T_type 55 = .ok (.invokespecial 58, 3) := by decide +kernel
theorem d_T_type_58 : decode b_T_type 58 = .ok (.athrow, 1) := by decide +kernel
theorem d_T_type_59 : decode b_T_type 59 = .ok (.aload_n 0, 1) := by decide +kernel
theorem d_T_type_60 : decode b_T_type 60 = .ok (.getfield 18, 3) := by decide +kernel
theorem d_T_type_63 : decode b_T_type 63 = .ok (.iload 6, 2) := by decide +kernel
theorem d_T_type_65 : decode b_T_type 65 = .ok (.new 16, 3) := by decide +kernel
theorem d_T_type_68 : decode b_T_type 68 = .ok (.dup, 1) := by decide +kernel
theorem d_T_type_69 : decode b_T_type 69 = .ok (.iload_n 1, 1) := by decide +kernel
theorem d_T_type_70 : decode b_T_type 70 = .ok (.iload_n 2, 1) := by decide +kernel
theorem d_T_type_71 : decode b_T_type 71 = .ok (.iload_n 3, 1) := by decide +kernel
theorem d_T_type_72 : decode b_T_type 72 = .ok (.iload 4, 2) := by decide +kernel
theorem d_T_type_74 : decode b_T_type 74 = .ok (.iload 5, 2) := by decide +kernel
theorem d_T_type_76 : decode b_T_type 76 = .ok (.invokespecial 82, 3) := by decide +kernel
theorem d_T_type_79 : decode b_T_type 79 = .ok (.aastore, 1) := by decide +kernel
theorem d_T_type_80 : decode b_T_type 80 = .ok (.aload_n 0, 1) := by decide +kernel
theorem d_T_type_81 : decode b_T_type 81 = .ok (.iload 6, 2) := by decide +kernel
theorem d_T_type_83 : decode b_T_type 83 = .ok (.iconst 1, 1) := by decide +kernel
theorem d_T_type_84 : decode b_T_type 84 = .ok (.iadd, 1) := by decide +kernel
theorem d_T_type_85 : decode b_T_type 85 = .ok (.putfield 22, 3) := by decide +kernel
theorem d_T_type_88 : decode b_T_type 88 = .ok (.iload 6, 2) := by decide +kernel
theorem d_T_type_90 : decode b_T_type 90 = .ok (.ireturn, 1) := by decide +kernel
theorem d_T_stops_0 : decode b_T_stops 0 = .ok (.aload_n 0, 1) := by decide +kernel
theorem d_T_stops_1 : decode b_T_stops 1 = .ok (.iload_n 1, 1) := by decide +kernel
theorem d_T_stops_2 : decode b_T_stops 2 = .ok (.iload_n 2, 1) := by decide +kernel
theorem d_T_stops_3 : decode b_T_stops 3 = .ok (.iload_n 3, 1) := by decide +kernel
theorem d_T_stops_4 : decode b_T_stops 4 = .ok (.iload 4, 2) := by decide +kernel
theorem d_T_stops_6 : decode b_T_stops 6 = .ok (.invokevirtual 85, 3) := by decide +kernel
theorem d_T_stops_9 : decode b_T_stops 9 = .ok (.pop, 1) := by decide +kernel
theorem d_T_stops_10 : decode b_T_stops 10 = .ok (.aload_n 0, 1) := by decide +kernel
theorem d_T_stops_11 : decode b_T_stops 11 = .ok (.getfield 29, 3) := by decide +kernel
theorem d_T_stops_14 : decode b_T_stops 14 = .ok (.getfield 89, 3) := by decide +kernel
theorem d_T_stops_17 : decode b_T_stops 17 = .ok (.aload_n 0, 1) := by decide +kernel
theorem d_T_stops_18 : decode b_T_stops 18 = .ok (.getfield 29, 3) := by decide +kernel
theorem d_T_stops_21 : decode b_T_stops 21 = .ok (.getfield 93, 3) := by decide +kernel
theorem d_T_stops_24 : decode b_T_stops 24 = .ok (.iload 4, 2) := by decide +kernel
theorem d_T_stops_26 : decode b_T_stops 26 = .ok (.invokestatic 96, 3) := by decide +kernel
theorem d_T_stops_29 : decode b_T_stops 29 = .ok (.lreturn, 1) := by decide +kernel
theorem d_T_highest_0 : decode b_T_highest 0 = .ok (.aload_n 0, 1) := by decide +kernel
theorem d_T_highest_1 : decode b_T_highest 1 = .ok (.iload_n 1, 1) := by decide +kernel
theorem d_T_highest_2 : decode b_T_highest 2 = .ok (.iload_n 2, 1) := by decide +kernel
theorem d_T_highest_3 : decode b_T_highest 3 = .ok (.iload_n 3, 1) := by decide +kernel
theorem d_T_highest_4 : decode b_T_highest 4 = .ok (.iload 4, 2) := by decide +kernel
theorem d_T_highest_6 : decode b_T_highest 6 = .ok (.invokevirtual 85, 3) := by decide +kernel
theorem d_T_highest_9 : decode b_T_highest 9 = .ok (.pop, 1) := by decide +kernel
theorem d_T_highest_10 : decode b_T_highest 10 = .ok (.aload_n 0, 1) := by decide +kernel
theorem d_T_highest_11 : decode b_T_highest 11 = .ok (.getfield 29, 3) := by decide +kernel
theorem d_T_highest_14 : decode b_T_highest 14 = .ok (.getfield 100, 3) := by decide +kernel
theorem d_T_highest_17 : decode b_T_highest 17 = .ok (.aload_n 0, 1) := by decide +kernel
theorem d_T_highest_18 : decode b_T_highest 18 = .ok (.getfield 29, 3) := by decide +kernel
theorem d_T_highest_21 : decode b_T_highest 21 = .ok (.getfield 93, 3) := by decide +kernel
theorem d_T_highest_24 : decode b_T_highest 24 = .ok (.iload 4, 2) := by decide +kernel
theorem d_T_highest_26 : decode b_T_highest 26 = .ok (.invokestatic 96, 3) := by decide +kernel
theorem d_T_highest_29 : decode b_T_highest 29 = .ok (.lreturn, 1) := by decide +kernel
theorem d_T_trip_0 : decode b_T_trip 0 = .ok (.aload_n 0, 1) := by decide +kernel
theorem d_T_trip_1 : decode b_T_trip 1 = .ok (.iload_n 1, 1) := by decide +kernel
theorem d_T_trip_2 : decode b_T_trip 2 = .ok (.iload_n 2, 1) := by decide +kernel
theorem d_T_trip_3 : decode b_T_trip 3 = .ok (.iload_n 3, 1) := by decide +kernel
theorem d_T_trip_4 : decode b_T_trip 4 = .ok (.iload 4, 2) := by decide +kernel
theorem d_T_trip_6 : decode b_T_trip 6 = .ok (.invokevirtual 85, 3) := by decide +kernel
theorem d_T_trip_9 : decode b_T_trip 9 = .ok (.astore 5, 2) := by decide +kernel
theorem d_T_trip_11 : decode b_T_trip 11 = .ok (.aload_n 0, 1) := by decide +kernel
theorem d_T_trip_12 : decode b_T_trip 12 = .ok (.getfield 29, 3) := by decide +kernel
theorem d_T_trip_15 : decode b_T_trip 15 = .ok (.aload 5, 2) := by decide +kernel
theorem d_T_trip_17 : decode b_T_trip 17 = .ok (.invokevirtual 103, 3) := by decide +kernel
theorem d_T_trip_20 : decode b_T_trip 20 = .ok (.aload_n 0, 1) := by decide +kernel
theorem d_T_trip_21 : decode b_T_trip 21 = .ok (.getfield 29, 3) := by decide +kernel
theorem d_T_trip_24 : decode b_T_trip 24 = .ok (.aload 5, 2) := by decide +kernel
theorem d_T_trip_26 : decode b_T_trip 26 = .ok (.invokevirtual 107, 3) := by decide +kernel
theorem d_T_trip_29 : decode b_T_trip 29 = .ok (.iload 4, 2) := by decide +kernel
theorem d_T_trip_31 : decode b_T_trip 31 = .ok (.invokestatic 96, 3) := by decide +kernel
theorem d_T_trip_34 : decode b_T_trip 34 = .ok (.lreturn, 1) := by decide +kernel
theorem d_T_compare_0 : decode b_T_compare 0 = .ok (.aload_n 0, 1) := by decide +kernel
theorem d_T_compare_1 : decode b_T_compare 1 = .ok (.iload_n 1, 1) := by decide +kernel
theorem d_T_compare_2 : decode b_T_compare 2 = .ok (.invokevirtual 110, 3) := by decide +kernel
theorem d_T_compare_5 : decode b_T_compare 5 = .ok (.astore 5, 2) := by decide +kernel
theorem d_T_compare_7 : decode b_T_compare 7 = .ok (.aload_n 0, 1) := by decide +kernel
theorem d_T_compare_8 : decode b_T_compare 8 = .ok (.iload_n 2, 1) := by decide +kernel
theorem d_T_compare_9 : decode b_T_compare 9 = .ok (.invokevirtual 110, 3) := by decide +kernel
theorem d_T_compare_12 : decode b_T_compare 12 = .ok (.astore 6, 2) := by decide +kernel
theorem d_T_compare_14 : decode b_T_compare 14 = .ok (.aload_n 0, 1) := by decide +kernel
theorem d_T_compare_15 : decode b_T_compare 15 = .ok (.iload_n 3, 1) := by decide +kernel
theorem d_T_compare_16 : decode b_T_compare 16 = .ok (.iload 4, 2) := by decide +kernel
theorem d_T_compare_18 : decode b_T_compare 18 = .ok (.invokevirtual 114, 3) := by decide +kernel
theorem d_T_compare_21 : decode b_T_compare 21 = .ok (.aload_n 0, 1) := by decide +kernel
theorem d_T_compare_22 : decode b_T_compare 22 = .ok (.getfield 29, 3) := by decide +kernel
theorem d_T_compare_25 : decode b_T_compare 25 = .ok (.aload_n 0, 1) := by decide +kernel
theorem d_T_compare_26 : decode b_T_compare 26 = .ok (.getfield 10, 3) := by decide +kernel
theorem d_T_compare_29 : decode b_T_compare 29 = .ok (.aload 5, 2) := by decide +kernel
theorem d_T_compare_31 : decode b_T_compare 31 = .ok (.getfield 118, 3) := by decide +kernel
theorem d_T_compare_34 : decode b_T_compare 34 = .ok (.iload_n 3, 1) := by decide +kernel
theorem d_T_compare_35 : decode b_T_compare 35 = .ok (.iload 4, 2) := by decide +kernel
theorem d_T_compare_37 : decode b_T_compare 37 = .ok (.invokevirtual 121, 3) := by decide +kernel
theorem d_T_compare_40 : decode b_T_compare 40 = .ok (.aload_n 0, 1) := by decide +kernel
theorem d_T_compare_41 : decode b_T_compare 41 = .ok (.getfield 29, 3) := by decide +kernel
theorem d_T_compare_44 : decode b_T_compare 44 = .ok (.aload 5, 2) := by decide +kernel
theorem d_T_compare_46 : decode b_T_compare 46 = .ok (.invokevirtual 103, 3) := by decide +kernel
theorem d_T_compare_49 : decode b_T_compare 49 = .ok (.lstore 7, 2) := by decide +kernel
theorem d_T_compare_51 : decode b_T_compare 51 = .ok (.aload_n 0, 1) := by decide +kernel
theorem d_T_compare_52 : decode b_T_compare 52 = .ok (.getfield 29, 3) := by decide +kernel
theorem d_T_compare_55 : decode b_T_compare 55 = .ok (.aload 5, 2) := by decide +kernel
theorem d_T_compare_57 : decode b_T_compare 57 = .ok (.invokevirtual 107, 3) := by decide +kernel
theorem d_T_compare_60 : decode b_T_compare 60 = .ok (.lstore 9, 2) := by decide +kernel
theorem d_T_compare_62 : decode b_T_compare 62 = .ok (.aload_n 0, 1) := by decide +kernel
theorem d_T_compare_63 : decode b_T_compare 63 = .ok (.getfield 29, 3) := by decide +kernel
theorem d_T_compare_66 : decode b_T_compare 66 = .ok (.aload_n 0, 1) := by decide +kernel
theorem d_T_compare_67 : decode b_T_compare 67 = .ok (.getfield 10, 3) := by decide +kernel
theorem d_T_compare_70 : decode b_T_compare 70 = .ok (.aload 6, 2) := by decide +kernel
theorem d_T_compare_72 : decode b_T_compare 72 = .ok (.getfield 118, 3) := by decide +kernel
theorem d_T_compare_75 : decode b_T_compare 75 = .ok (.iload_n 3, 1) := by decide +kernel
theorem d_T_compare_76 : decode b_T_compare 76 = .ok (.iload 4, 2) := by decide +kernel
theorem d_T_compare_78 : decode b_T_compare 78 = .ok (.invokevirtual 121, 3) := by decide +kernel
theorem d_T_compare_81 : decode b_T_compare 81 = .ok (.lload 7, 2) := by decide +kernel
theorem d_T_compare_83 : decode b_T_compare 83 = .ok (.lload 9, 2) := by decide +kernel
theorem d_T_compare_85 : decode b_T_compare 85 = .ok (.aload_n 0, 1) := by decide +kernel
theorem d_T_compare_86 : decode b_T_compare 86 = .ok (.getfield 29, 3) := by decide +kernel
theorem d_T_compare_89 : decode b_T_compare 89 = .ok (.aload 6, 2) := by decide +kernel
theorem d_T_compare_91 : decode b_T_compare 91 = .ok (.invokevirtual 103, 3) := by decide +kernel
theorem d_T_compare_94 : decode b_T_compare 94 = .ok (.aload_n 0, 1) := by decide +kernel
theorem d_T_compare_95 : decode b_T_compare 95 = .ok (.getfield 29, 3) := by decide +kernel
theorem d_T_compare_98 : decode b_T_compare 98 = .ok (.aload 6, 2) := by decide +kernel
theorem d_T_compare_100 : decode b_T_compare 100 = .ok (.invokevirtual 107, 3) := by decide +kernel
theorem d_T_compare_103 : decode b_T_compare 103 = .ok (.invokestatic 125, 3) := by decide +kernel
theorem d_T_compare_106 : decode b_T_compare 106 = .ok (.ireturn, 1) := by decide +kernel
theorem d_T_carried_0 : decode b_T_carried 0 = .ok (.iload_n 1, 1) := by decide +kernel
theorem d_T_carried_1 : decode b_T_carried 1 = .ok (.iconst 1, 1) := by decide +kernel
theorem d_T_carried_2 : decode b_T_carried 2 = .ok (.bipush 6, 2) := by decide +kernel
theorem d_T_carried_4 : decode b_T_carried 4 = .ok (.invokestatic 47, 3) := by decide +kernel
theorem d_T_carried_7 : decode b_T_carried 7 = .ok (.aload_n 0, 1) := by decide +kernel
theorem d_T_carried_8 : decode b_T_carried 8 = .ok (.iload_n 2, 1) := by decide +kernel
theorem d_T_carried_9 : decode b_T_carried 9 = .ok (.invokevirtual 110, 3) := by decide +kernel
theorem d_T_carried_12 : decode b_T_carried 12 = .ok (.astore_n 3, 1) := by decide +kernel
theorem d_T_carried_13 : decode b_T_carried 13 = .ok (.aload_n 0, 1) := by decide +kernel
theorem d_T_carried_14 : decode b_T_carried 14 = .ok (.invokevirtual 129, 3) := by decide +kernel
theorem d_T_carried_17 : decode b_T_carried 17 = .ok (.aload_n 0, 1) := by decide +kernel
theorem d_T_carried_18 : decode b_T_carried 18 = .ok (.getfield 29, 3) := by decide +kernel
theorem d_T_carried_21 : decode b_T_carried 21 = .ok (.aload_n 0, 1) := by decide +kernel
theorem d_T_carried_22 : decode b_T_carried 22 = .ok (.getfield 10, 3) := by decide +kernel
theorem d_T_carried_25 : decode b_T_carried 25 = .ok (.aload_n 3, 1) := by decide +kernel
theorem d_T_carried_26 : decode b_T_carried 26 = .ok (.getfield 118, 3) := by decide +kernel
theorem d_T_carried_29 : decode b_T_carried 29 = .ok (.iconst 1, 1) := by decide +kernel
theorem d_T_carried_30 : decode b_T_carried 30 = .ok (.aload_n 0, 1) := by decide +kernel
theorem d_T_carried_31 : decode b_T_carried 31 = .ok (.getfield 10, 3) := by decide +kernel
theorem d_T_carried_34 : decode b_T_carried 34 = .ok (.getfield 51, 3) := by decide +kernel
theorem d_T_carried_37 : decode b_T_carried 37 = .ok (.invokevirtual 121, 3) := by decide +kernel
theorem d_T_carried_40 : decode b_T_carried 40 = .ok (.aload_n 0, 1) := by decide +kernel
theorem d_T_carried_41 : decode b_T_carried 41 = .ok (.getfield 29, 3) := by decide +kernel
theorem d_T_carried_44 : decode b_T_carried 44 = .ok (.iload_n 1, 1) := by decide +kernel
theorem d_T_carried_45 : decode b_T_carried 45 = .ok (.aload_n 3, 1) := by decide +kernel
theorem d_T_carried_46 : decode b_T_carried 46 = .ok (.invokevirtual 132, 3) := by decide +kernel
theorem d_T_carried_49 : decode b_T_carried 49 = .ok (.lreturn, 1) := by decide +kernel
theorem d_T_cheapest_0 : decode b_T_cheapest 0 = .ok (.iload_n 1, 1) := by decide +kernel
theorem d_T_cheapest_1 : decode b_T_cheapest 1 = .ok (.ifCond .ge 13, 3) := by decide +kernel
theorem d_T_cheapest_4 : decode b_T_cheapest 4 = .ok (.new 136, 3) := by decide +kernel
theorem d_T_cheapest_7 : decode b_T_cheapest 7 = .ok (.dup, 1) := by decide +kernel
theorem d_T_cheapest_8 : decode b_T_cheapest 8 = .ok (.ldc 138, 2) := by decide +kernel
theorem d_T_cheapest_10 : decode b_T_cheapest 10 = .ok (.invokespecial 140, 3) := by decide +kernel
theorem d_T_cheapest_13 : decode b_T_cheapest 13 = .ok (.athrow, 1) := by decide +kernel
theorem d_T_cheapest_14 : decode b_T_cheapest 14 = .ok (.aload_n 0, 1) := by decide +kernel
theorem d_T_cheapest_15 : decode b_T_cheapest 15 = .ok (.invokevirtual 129, 3) := by decide +kernel
theorem d_T_cheapest_18 : decode b_T_cheapest 18 = .ok (.iconst (-1), 1) := by decide +kernel
theorem d_T_cheapest_19 : decode b_T_cheapest 19 = .ok (.istore_n 2, 1) := by decide +kernel
theorem d_T_cheapest_20 : decode b_T_cheapest 20 = .ok (.iconst 0, 1) := by decide +kernel
theorem d_T_cheapest_21 : decode b_T_cheapest 21 = .ok (.istore_n 3, 1) := by decide +kernel
theorem d_T_cheapest_22 : decode b_T_cheapest 22 = .ok (.iconst 0, 1) := by decide +kernel
theorem d_T_cheapest_23 : decode b_T_cheapest 23 = .ok (.istore 4, 2) := by decide +kernel
theorem d_T_cheapest_25 : decode b_T_cheapest 25 = .ok (.iconst 0, 1) := by decide +kernel
theorem d_T_cheapest_26 : decode b_T_cheapest 26 = .ok (.istore 5, 2) := by decide +kernel
theorem d_T_cheapest_28 : decode b_T_cheapest 28 = .ok (.iload 5, 2) := by decide +kernel
theorem d_T_cheapest_30 : decode b_T_cheapest 30 = .ok (.aload_n 0, 1) := by decide +kernel
theorem d_T_cheapest_31 : decode b_T_cheapest 31 = .ok (.getfield 22, 3) := by decide +kernel
theorem d_T_cheapest_34 : decode b_T_cheapest 34 = .ok (.if_icmp .ge 85, 3) := by decide +kernel
theorem d_T_cheapest_37 : decode b_T_cheapest 37 = .ok (.aload_n 0, 1) := by decide +kernel
theorem d_T_cheapest_38 : decode b_T_cheapest 38 = .ok (.iload 5, 2) := by decide +kernel
theorem d_T_cheapest_40 : decode b_T_cheapest 40 = .ok (.invokevirtual 110, 3) := by decide +kernel
theorem d_T_cheapest_43 : decode b_T_cheapest 43 = .ok (.astore 6, 2) := by decide +kernel
theorem d_T_cheapest_45 : decode b_T_cheapest 45 = .ok (.aload_n 0, 1) := by decide +kernel
theorem d_T_cheapest_46 : decode b_T_cheapest 46 = .ok (.aload 6, 2) := by decide +kernel
theorem d_T_cheapest_48 : decode b_T_cheapest 48 = .ok (.iload_n 1, 1) := by decide +kernel
theorem d_T_cheapest_49 : decode b_T_cheapest 49 = .ok (.invokevirtual 141, 3) := by decide +kernel
theorem d_T_cheapest_52 : decode b_T_cheapest 52 = .ok (.istore 7, 2) := by decide +kernel
theorem d_T_cheapest_54 : decode b_T_cheapest 54 = .ok (.iload 7, 2) := by decide +kernel
theorem d_T_cheapest_56 : decode b_T_cheapest 56 = .ok (.iconst (-1), 1) := by decide +kernel
theorem d_T_cheapest_57 : decode b_T_cheapest 57 = .ok (.if_icmp .ne 6, 3) := by decide +kernel
theorem d_T_cheapest_60 : decode b_T_cheapest 60 = .ok (.goto 53, 3) := by decide +kernel
theorem d_T_cheapest_63 : decode b_T_cheapest 63 = .ok (.iload 7, 2) := by decide +kernel
theorem d_T_cheapest_65 : decode b_T_cheapest 65 = .ok (.aload 6, 2) := by decide +kernel
theorem d_T_cheapest_67 : decode b_T_cheapest 67 = .ok (.getfield 145, 3) := by decide +kernel
theorem d_T_cheapest_70 : decode b_T_cheapest 70 = .ok (.imul, 1) := by decide +kernel
theorem d_T_cheapest_71 : decode b_T_cheapest 71 = .ok (.istore 8, 2) := by decide +kernel
theorem d_T_cheapest_73 : decode b_T_cheapest 73 = .ok (.iload_n 2, 1) := by decide +kernel
theorem d_T_cheapest_74 : decode b_T_cheapest 74 = .ok (.iconst (-1), 1) := by decide +kernel
theorem d_T_cheapest_75 : decode b_T_cheapest 75 = .ok (.if_icmp .eq 22, 3) := by decide +kernel
theorem d_T_cheapest_78 : decode b_T_cheapest 78 = .ok (.iload 8, 2) := by decide +kernel
theorem d_T_cheapest_80 : decode b_T_cheapest 80 = .ok (.iload_n 3, 1) := by decide +kernel
theorem d_T_cheapest_81 : decode b_T_cheapest 81 = .ok (.if_icmp .lt 16, 3) := by decide +kernel
theorem d_T_cheapest_84 : decode b_T_cheapest 84 = .ok (.iload 8, 2) := by decide +kernel
theorem d_T_cheapest_86 : decode b_T_cheapest 86 = .ok (.iload_n 3, 1) := by decide +kernel
theorem d_T_cheapest_87 : decode b_T_cheapest 87 = .ok (.if_icmp .ne 26, 3) := by decide +kernel
theorem d_T_cheapest_90 : decode b_T_cheapest 90 = .ok (.iload 7, 2) := by decide +kernel
theorem d_T_cheapest_92 : decode b_T_cheapest 92 = .ok (.iload 4, 2) := by decide +kernel
theorem d_T_cheapest_94 : decode b_T_cheapest 94 = .ok (.if_icmp .ge 19, 3) := by decide +kernel
theorem d_T_cheapest_97 : decode b_T_cheapest 97 = .ok (.bipush 10, 2) := by decide +kernel
theorem d_T_cheapest_99 : decode b_T_cheapest 99 = .ok (.iload 5, 2) := by decide +kernel
theorem d_T_cheapest_101 : decode b_T_cheapest 101 = .ok (.imul, 1) := by decide +kernel
theorem d_T_cheapest_102 : decode b_T_cheapest 102 = .ok (.iload 7, 2) := by decide +kernel
theorem d_T_cheapest_104 : decode b_T_cheapest 104 = .ok (.iadd, 1) := by decide +kernel
theorem d_T_cheapest_105 : decode b_T_cheapest 105 = .ok (.istore_n 2, 1) := by decide +kernel
theorem d_T_cheapest_106 : decode b_T_cheapest 106 = .ok (.iload 8, 2) := by decide +kernel
theorem d_T_cheapest_108 : decode b_T_cheapest 108 = .ok (.istore_n 3, 1) := by decide +kernel
theorem d_T_cheapest_109 : decode b_T_cheapest 109 = .ok (.iload 7, 2) := by decide +kernel
theorem d_T_cheapest_111 : decode b_T_cheapest 111 = .ok (.istore 4, 2) := by decide +kernel
theorem d_T_cheapest_113 : decode b_T_cheapest 113 = .ok (.iinc 5 1, 3) := by decide +kernel
theorem d_T_cheapest_116 : decode b_T_cheapest 116 = .ok (.goto (-88), 3) := by decide +kernel
theorem d_T_cheapest_119 : decode b_T_cheapest 119 = .ok (.iload_n 2, 1) := by decide +kernel
theorem d_T_cheapest_120 : decode b_T_cheapest 120 = .ok (.ireturn, 1) := by decide +kernel
theorem d_T_split_0 : decode b_T_split 0 = .ok (.aload_n 0, 1) := by decide +kernel
theorem d_T_split_1 : decode b_T_split 1 = .ok (.iload_n 1, 1) := by decide +kernel
theorem d_T_split_2 : decode b_T_split 2 = .ok (.invokevirtual 110, 3) := by decide +kernel
theorem d_T_split_5 : decode b_T_split 5 = .ok (.astore 4, 2) := by decide +kernel
theorem d_T_split_7 : decode b_T_split 7 = .ok (.iload_n 2, 1) := by decide +kernel
theorem d_T_split_8 : decode b_T_split 8 = .ok (.iconst 1, 1) := by decide +kernel
theorem d_T_split_9 : decode b_T_split 9 = .ok (.iconst 4, 1) := by decide +kernel
theorem d_T_split_10 : decode b_T_split 10 = .ok (.invokestatic 47, 3) := by decide +kernel
theorem d_T_split_13 : decode b_T_split 13 = .ok (.iload_n 3, 1) := by decide +kernel
theorem d_T_split_14 : decode b_T_split 14 = .ok (.iconst 0, 1) := by decide +kernel
theorem d_T_split_15 : decode b_T_split 15 = .ok (.iload_n 2, 1) := by decide +kernel
theorem d_T_split_16 : decode b_T_split 16 = .ok (.iconst 1, 1) := by decide +kernel
theorem d_T_split_17 : decode b_T_split 17 = .ok (.isub, 1) := by decide +kernel
theorem d_T_split_18 : decode b_T_split 18 = .ok (.invokestatic 47, 3) := by decide +kernel
theorem d_T_split_21 : decode b_T_split 21 = .ok (.aload_n 0, 1) := by decide +kernel
theorem d_T_split_22 : decode b_T_split 22 = .ok (.getfield 10, 3) := by decide +kernel
theorem d_T_split_25 : decode b_T_split 25 = .ok (.getfield 51, 3) := by decide +kernel
theorem d_T_split_28 : decode b_T_split 28 = .ok (.iload_n 2, 1) := by decide +kernel
theorem d_T_split_29 : decode b_T_split 29 = .ok (.if_icmp .ge 13, 3) := by decide +kernel
theorem d_T_split_32 : decode b_T_split 32 = .ok (.new 54, 3) := by decide +kernel
theorem d_T_split_35 : decode b_T_split 35 = .ok (.dup, 1) := by decide +kernel
theorem d_T_split_36 : decode b_T_split 36 = .ok (.ldc 148, 2) := by decide +kernel
theorem d_T_split_38 : decode b_T_split 38 = .ok (.invokespecial 58, 3) := by decide +kernel
theorem d_T_split_41 : decode b_T_split 41 = .ok (.athrow, 1) := by decide +kernel
theorem d_T_split_42 : decode b_T_split 42 = .ok (.aload_n 0, 1) := by decide +kernel
theorem d_T_split_43 : decode b_T_split 43 = .ok (.getfield 36, 3) := by decide +kernel
theorem d_T_split_46 : decode b_T_split 46 = .ok (.aload_n 0, 1) := by decide +kernel
theorem d_T_split_47 : decode b_T_split 47 = .ok (.getfield 10, 3) := by decide +kernel
theorem d_T_split_50 : decode b_T_split 50 = .ok (.aload 4, 2) := by decide +kernel
theorem d_T_split_52 : decode b_T_split 52 = .ok (.aload_n 0, 1) := by decide +kernel
theorem d_T_split_53 : decode b_T_split 53 = .ok (.getfield 29, 3) := by decide +kernel
theorem d_T_split_56 : decode b_T_split 56 = .ok (.invokevirtual 150, 3) := by decide +kernel
theorem d_T_split_59 : decode b_T_split 59 = .ok (.aload_n 0, 1) := by decide +kernel
theorem d_T_split_60 : decode b_T_split 60 = .ok (.getfield 36, 3) := by decide +kernel
theorem d_T_split_63 : decode b_T_split 63 = .ok (.aload_n 0, 1) := by decide +kernel
theorem d_T_split_64 : decode b_T_split 64 = .ok (.getfield 10, 3) := by decide +kernel
theorem d_T_split_67 : decode b_T_split 67 = .ok (.getfield 51, 3) := by decide +kernel
theorem d_T_split_70 : decode b_T_split 70 = .ok (.iload_n 2, 1) := by decide +kernel
theorem d_T_split_71 : decode b_T_split 71 = .ok (.invokevirtual 154, 3) := by decide +kernel
theorem d_T_split_74 : decode b_T_split 74 = .ok (.aload_n 0, 1) := by decide +kernel
theorem d_T_split_75 : decode b_T_split 75 = .ok (.getfield 36, 3) := by decide +kernel
theorem d_T_split_78 : decode b_T_split 78 = .ok (.getfield 157, 3) := by decide +kernel
theorem d_T_split_81 : decode b_T_split 81 = .ok (.iload_n 3, 1) := by decide +kernel
theorem d_T_split_82 : decode b_T_split 82 = .ok (.iaload, 1) := by decide +kernel
theorem d_T_split_83 : decode b_T_split 83 = .ok (.ireturn, 1) := by decide +kernel
theorem d_T_out_0 : decode b_T_out 0 = .ok (.iload_n 1, 1) := by decide +kernel
theorem d_T_out_1 : decode b_T_out 1 = .ok (.iconst 1, 1) := by decide +kernel
theorem d_T_out_2 : decode b_T_out 2 = .ok (.bipush 50, 2) := by decide +kernel
theorem d_T_out_4 : decode b_T_out 4 = .ok (.invokestatic 47, 3) := by decide +kernel
theorem d_T_out_7 : decode b_T_out 7 = .ok (.aload_n 0, 1) := by decide +kernel
theorem d_T_out_8 : decode b_T_out 8 = .ok (.getfield 43, 3) := by decide +kernel
theorem d_T_out_11 : decode b_T_out 11 = .ok (.aload_n 0, 1) := by decide +kernel
theorem d_T_out_12 : decode b_T_out 12 = .ok (.getfield 10, 3) := by decide +kernel
theorem d_T_out_15 : decode b_T_out 15 = .ok (.invokevirtual 160, 3) := by decide +kernel
theorem d_T_out_18 : decode b_T_out 18 = .ok (.iconst 0, 1) := by decide +kernel
theorem d_T_out_19 : decode b_T_out 19 = .ok (.istore_n 2, 1) := by decide +kernel
theorem d_T_out_20 : decode b_T_out 20 = .ok (.iload_n 2, 1) := by decide +kernel
theorem d_T_out_21 : decode b_T_out 21 = .ok (.sipush 1000, 3) := by decide +kernel
theorem d_T_out_24 : decode b_T_out 24 = .ok (.if_icmp .ge 34, 3) := by decide +kernel
theorem d_T_out_27 : decode b_T_out 27 = .ok (.aload_n 0, 1) := by decide +kernel
theorem d_T_out_28 : decode b_T_out 28 = .ok (.getfield 43, 3) := by decide +kernel
theorem d_T_out_31 : decode b_T_out 31 = .ok (.getfield 164, 3) := by decide +kernel
theorem d_T_out_34 : decode b_T_out 34 = .ok (.ifCond .le 24, 3) := by decide +kernel
theorem d_T_out_37 : decode b_T_out 37 = .ok (.aload_n 0, 1) := by decide +kernel
theorem d_T_out_38 : decode b_T_out 38 = .ok (.getfield 43, 3) := by decide +kernel
theorem d_T_out_41 : decode b_T_out 41 = .ok (.aload_n 0, 1) := by decide +kernel
theorem d_T_out_42 : decode b_T_out 42 = .ok (.getfield 10, 3) := by decide +kernel
theorem d_T_out_45 : decode b_T_out 45 = .ok (.getfield 51, 3) := by decide +kernel
theorem d_T_out_48 : decode b_T_out 48 = .ok (.iload_n 1, 1) := by decide +kernel
theorem d_T_out_49 : decode b_T_out 49 = .ok (.invokevirtual 167, 3) := by decide +kernel
theorem d_T_out_52 : decode b_T_out 52 = .ok (.iinc 2 1, 3) := by decide +kernel
theorem d_T_out_55 : decode b_T_out 55 = .ok (.goto (-35), 3) := by decide +kernel
theorem d_T_out_58 : decode b_T_out 58 = .ok (.iload_n 2, 1) := by decide +kernel
theorem d_T_out_59 : decode b_T_out 59 = .ok (.ireturn, 1) := by decide +kernel
theorem d_T_there_0 : decode b_T_there 0 = .ok (.iload_n 1, 1) := by decide +kernel
theorem d_T_there_1 : decode b_T_there 1 = .ok (.iconst 1, 1) := by decide +kernel
theorem d_T_there_2 : decode b_T_there 2 = .ok (.bipush 50, 2) := by decide +kernel
theorem d_T_there_4 : decode b_T_there 4 = .ok (.invokestatic 47, 3) := by decide +kernel
theorem d_T_there_7 : decode b_T_there 7 = .ok (.aload_n 0, 1) := by decide +kernel
theorem d_T_there_8 : decode b_T_there 8 = .ok (.iload_n 2, 1) := by decide +kernel
theorem d_T_there_9 : decode b_T_there 9 = .ok (.invokevirtual 72, 3) := by decide +kernel
theorem d_T_there_12 : decode b_T_there 12 = .ok (.iload_n 3, 1) := by decide +kernel
theorem d_T_there_13 : decode b_T_there 13 = .ok (.iconst 0, 1) := by decide +kernel
theorem d_T_there_14 : decode b_T_there 14 = .ok (.sipush 1000, 3) := by decide +kernel
theorem d_T_there_17 : decode b_T_there 17 = .ok (.invokestatic 47, 3) := by decide +kernel
theorem d_T_there_20 : decode b_T_there 20 = .ok (.aload_n 0, 1) := by decide +kernel
theorem d_T_there_21 : decode b_T_there 21 = .ok (.getfield 43, 3) := by decide +kernel
theorem d_T_there_24 : decode b_T_there 24 = .ok (.aload_n 0, 1) := by decide +kernel
theorem d_T_there_25 : decode b_T_there 25 = .ok (.getfield 10, 3) := by decide +kernel
theorem d_T_there_28 : decode b_T_there 28 = .ok (.invokevirtual 160, 3) := by decide +kernel
theorem d_T_there_31 : decode b_T_there 31 = .ok (.iconst 0, 1) := by decide +kernel
theorem d_T_there_32 : decode b_T_there 32 = .ok (.istore 4, 2) := by decide +kernel
theorem d_T_there_34 : decode b_T_there 34 = .ok (.iload 4, 2) := by decide +kernel
theorem d_T_there_36 : decode b_T_there 36 = .ok (.iload_n 3, 1) := by decide +kernel
theorem d_T_there_37 : decode b_T_there 37 = .ok (.if_icmp .ge 34, 3) := by decide +kernel
theorem d_T_there_40 : decode b_T_there 40 = .ok (.aload_n 0, 1) := by decide +kernel
theorem d_T_there_41 : decode b_T_there 41 = .ok (.getfield 43, 3) := by decide +kernel
theorem d_T_there_44 : decode b_T_there 44 = .ok (.getfield 164, 3) := by decide +kernel
theorem d_T_there_47 : decode b_T_there 47 = .ok (.ifCond .le 24, 3) := by decide +kernel
theorem d_T_there_50 : decode b_T_there 50 = .ok (.aload_n 0, 1) := by decide +kernel
theorem d_T_there_51 : decode b_T_there 51 = .ok (.getfield 43, 3) := by decide +kernel
theorem d_T_there_54 : decode b_T_there 54 = .ok (.aload_n 0, 1) := by decide +kernel
theorem d_T_there_55 : decode b_T_there 55 = .ok (.getfield 10, 3) := by decide +kernel
theorem d_T_there_58 : decode b_T_there 58 = .ok (.getfield 51, 3) := by decide +kernel
theorem d_T_there_61 : decode b_T_there 61 = .ok (.iload_n 1, 1) := by decide +kernel
theorem d_T_there_62 : decode b_T_there 62 = .ok (.invokevirtual 167, 3) := by decide +kernel
theorem d_T_there_65 : decode b_T_there 65 = .ok (.iinc 4 1, 3) := by decide +kernel
theorem d_T_there_68 : decode b_T_there 68 = .ok (.goto (-34), 3) := by decide +kernel
theorem d_T_there_71 : decode b_T_there 71 = .ok (.aload_n 0, 1) := by decide +kernel
theorem d_T_there_72 : decode b_T_there 72 = .ok (.getfield 43, 3) := by decide +kernel
theorem d_T_there_75 : decode b_T_there 75 = .ok (.getfield 170, 3) := by decide +kernel
theorem d_T_there_78 : decode b_T_there 78 = .ok (.iload_n 2, 1) := by decide +kernel
theorem d_T_there_79 : decode b_T_there 79 = .ok (.iaload, 1) := by decide +kernel
theorem d_T_there_80 : decode b_T_there 80 = .ok (.ireturn, 1) := by decide +kernel
theorem d_T_crowd_0 : decode b_T_crowd 0 = .ok (.iload_n 1, 1) := by decide +kernel
theorem d_T_crowd_1 : decode b_T_crowd 1 = .ok (.iconst 1, 1) := by decide +kernel
theorem d_T_crowd_2 : decode b_T_crowd 2 = .ok (.bipush 50, 2) := by decide +kernel
theorem d_T_crowd_4 : decode b_T_crowd 4 = .ok (.invokestatic 47, 3) := by decide +kernel
theorem d_T_crowd_7 : decode b_T_crowd 7 = .ok (.aload_n 0, 1) := by decide +kernel
theorem d_T_crowd_8 : decode b_T_crowd 8 = .ok (.iload_n 2, 1) := by decide +kernel
theorem d_T_crowd_9 : decode b_T_crowd 9 = .ok (.invokevirtual 72, 3) := by decide +kernel
theorem d_T_crowd_12 : decode b_T_crowd 12 = .ok (.aload_n 0, 1) := by decide +kernel
theorem d_T_crowd_13 : decode b_T_crowd 13 = .ok (.getfield 43, 3) := by decide +kernel
theorem d_T_crowd_16 : decode b_T_crowd 16 = .ok (.aload_n 0, 1) := by decide +kernel
theorem d_T_crowd_17 : decode b_T_crowd 17 = .ok (.getfield 10, 3) := by decide +kernel
theorem d_T_crowd_20 : decode b_T_crowd 20 = .ok (.invokevirtual 160, 3) := by decide +kernel
theorem d_T_crowd_23 : decode b_T_crowd 23 = .ok (.aload_n 0, 1) := by decide +kernel
theorem d_T_crowd_24 : decode b_T_crowd 24 = .ok (.getfield 43, 3) := by decide +kernel
theorem d_T_crowd_27 : decode b_T_crowd 27 = .ok (.getfield 170, 3) := by decide +kernel
theorem d_T_crowd_30 : decode b_T_crowd 30 = .ok (.iload_n 2, 1) := by decide +kernel
theorem d_T_crowd_31 : decode b_T_crowd 31 = .ok (.iaload, 1) := by decide +kernel
theorem d_T_crowd_32 : decode b_T_crowd 32 = .ok (.istore_n 3, 1) := by decide +kernel
theorem d_T_crowd_33 : decode b_T_crowd 33 = .ok (.iconst 0, 1) := by decide +kernel
theorem d_T_crowd_34 : decode b_T_crowd 34 = .ok (.istore 4, 2) := by decide +kernel
theorem d_T_crowd_36 : decode b_T_crowd 36 = .ok (.iload 4, 2) := by decide +kernel
theorem d_T_crowd_38 : decode b_T_crowd 38 = .ok (.sipush 1000, 3) := by decide +kernel
theorem d_T_crowd_41 : decode b_T_crowd 41 = .ok (.if_icmp .ge 48, 3) := by decide +kernel
theorem d_T_crowd_44 : decode b_T_crowd 44 = .ok (.aload_n 0, 1) := by decide +kernel
theorem d_T_crowd_45 : decode b_T_crowd 45 = .ok (.getfield 43, 3) := by decide +kernel
theorem d_T_crowd_48 : decode b_T_crowd 48 = .ok (.getfield 164, 3) := by decide +kernel
theorem d_T_crowd_51 : decode b_T_crowd 51 = .ok (.ifCond .le 38, 3) := by decide +kernel
theorem d_T_crowd_54 : decode b_T_crowd 54 = .ok (.aload_n 0, 1) := by decide +kernel
theorem d_T_crowd_55 : decode b_T_crowd 55 = .ok (.getfield 43, 3) := by decide +kernel
theorem d_T_crowd_58 : decode b_T_crowd 58 = .ok (.aload_n 0, 1) := by decide +kernel
theorem d_T_crowd_59 : decode b_T_crowd 59 = .ok (.getfield 10, 3) := by decide +kernel
theorem d_T_crowd_62 : decode b_T_crowd 62 = .ok (.getfield 51, 3) := by decide +kernel
theorem d_T_crowd_65 : decode b_T_crowd 65 = .ok (.iload_n 1, 1) := by decide +kernel
theorem d_T_crowd_66 : decode b_T_crowd 66 = .ok (.invokevirtual 167, 3) := by decide +kernel
theorem d_T_crowd_69 : decode b_T_crowd 69 = .ok (.iload_n 3, 1) := by decide +kernel
theorem d_T_crowd_70 : decode b_T_crowd 70 = .ok (.aload_n 0, 1) := by decide +kernel
theorem d_T_crowd_71 : decode b_T_crowd 71 = .ok (.getfield 43, 3) := by decide +kernel
theorem d_T_crowd_74 : decode b_T_crowd 74 = .ok (.getfield 170, 3) := by decide +kernel
theorem d_T_crowd_77 : decode b_T_crowd 77 = .ok (.iload_n 2, 1) := by decide +kernel
theorem d_T_crowd_78 : decode b_T_crowd 78 = .ok (.iaload, 1) := by decide +kernel
theorem d_T_crowd_79 : decode b_T_crowd 79 = .ok (.invokestatic 173, 3) := by decide +kernel
theorem d_T_crowd_82 : decode b_T_crowd 82 = .ok (.istore_n 3, 1) := by decide +kernel
theorem d_T_crowd_83 : decode b_T_crowd 83 = .ok (.iinc 4 1, 3) := by decide +kernel
theorem d_T_crowd_86 : decode b_T_crowd 86 = .ok (.goto (-50), 3) := by decide +kernel
theorem d_T_crowd_89 : decode b_T_crowd 89 = .ok (.iload_n 3, 1) := by decide +kernel
theorem d_T_crowd_90 : decode b_T_crowd 90 = .ok (.ireturn, 1) := by decide +kernel
theorem d_T_requireWithin_0 : decode b_T_requireWithin 0 = .ok (.iload_n 0, 1) := by decide +kernel
theorem d_T_requireWithin_1 : decode b_T_requireWithin 1 = .ok (.iload_n 1, 1) := by decide +kernel
theorem d_T_requireWithin_2 : decode b_T_requireWithin 2 = .ok (.if_icmp .lt 8, 3) := by decide +kernel
theorem d_T_requireWithin_5 : decode b_T_requireWithin 5 = .ok (.iload_n 0, 1) := by decide +kernel
theorem d_T_requireWithin_6 : decode b_T_requireWithin 6 = .ok (.iload_n 2, 1) := by decide +kernel
theorem d_T_requireWithin_7 : decode b_T_requireWithin 7 = .ok (.if_icmp .le 13, 3) := by decide +kernel
theorem d_T_requireWithin_10 : decode b_T_requireWithin 10 = .ok (.new 136, 3) := by decide +kernel
theorem d_T_requireWithin_13 : decode b_T_requireWithin 13 = .ok (.dup, 1) := by decide +kernel
theorem d_T_requireWithin_14 : decode b_T_requireWithin 14 = .ok (.ldc 178, 2) := by decide +kernel
theorem d_T_requireWithin_16 : decode b_T_requireWithin 16 = .ok (.invokespecial 140, 3) := by decide +kernel
theorem d_T_requireWithin_19 : decode b_T_requireWithin 19 = .ok (.athrow, 1) := by decide +kernel
theorem d_T_requireWithin_20 : decode b_T_requireWithin 20 = .ok (.return_, 1) := by decide +kernel
theorem d_T_requireFloor_0 : decode b_T_requireFloor 0 = .ok (.iload_n 1, 1) := by decide +kernel
theorem d_T_requireFloor_1 : decode b_T_requireFloor 1 = .ok (.iconst 1, 1) := by decide +kernel
theorem d_T_requireFloor_2 : decode b_T_requireFloor 2 = .ok (.if_icmp .lt 14, 3) := by decide +kernel
theorem d_T_requireFloor_5 : decode b_T_requireFloor 5 = .ok (.iload_n 1, 1) := by decide +kernel
theorem d_T_requireFloor_6 : decode b_T_requireFloor 6 = .ok (.aload_n 0, 1) := by decide +kernel
theorem d_T_requireFloor_7 : decode b_T_requireFloor 7 = .ok (.getfield 10, 3) := by decide +kernel
theorem d_T_requireFloor_10 : decode b_T_requireFloor 10 = .ok (.getfield 51, 3) := by decide +kernel
theorem d_T_requireFloor_13 : decode b_T_requireFloor 13 = .ok (.if_icmp .le 13, 3) := by decide +kernel
theorem d_T_requireFloor_16 : decode b_T_requireFloor 16 = .ok (.new 136, 3) := by decide +kernel
theorem d_T_requireFloor_19 : decode b_T_requireFloor 19 = .ok (.dup, 1) := by decide +kernel
theorem d_T_requireFloor_20 : decode b_T_requireFloor 20 = .ok (.ldc 180, 2) := by decide +kernel
theorem d_T_requireFloor_22 : decode b_T_requireFloor 22 = .ok (.invokespecial 140, 3) := by decide +kernel
theorem d_T_requireFloor_25 : decode b_T_requireFloor 25 = .ok (.athrow, 1) := by decide +kernel
theorem d_T_requireFloor_26 : decode b_T_requireFloor 26 = .ok (.return_, 1) := by decide +kernel
theorem d_T_requireZone_0 : decode b_T_requireZone 0 = .ok (.aload_n 0, 1) := by decide +kernel
theorem d_T_requireZone_1 : decode b_T_requireZone 1 = .ok (.iload_n 1, 1) := by decide +kernel
theorem d_T_requireZone_2 : decode b_T_requireZone 2 = .ok (.invokevirtual 72, 3) := by decide +kernel
theorem d_T_requireZone_5 : decode b_T_requireZone 5 = .ok (.aload_n 0, 1) := by decide +kernel
theorem d_T_requireZone_6 : decode b_T_requireZone 6 = .ok (.iload_n 2, 1) := by decide +kernel
theorem d_T_requireZone_7 : decode b_T_requireZone 7 = .ok (.invokevirtual 72, 3) := by decide +kernel
theorem d_T_requireZone_10 : decode b_T_requireZone 10 = .ok (.iload_n 2, 1) := by decide +kernel
theorem d_T_requireZone_11 : decode b_T_requireZone 11 = .ok (.iload_n 1, 1) := by decide +kernel
theorem d_T_requireZone_12 : decode b_T_requireZone 12 = .ok (.if_icmp .ge 13, 3) := by decide +kernel
theorem d_T_requireZone_15 : decode b_T_requireZone 15 = .ok (.new 136, 3) := by decide +kernel
theorem d_T_requireZone_18 : decode b_T_requireZone 18 = .ok (.dup, 1) := by decide +kernel
theorem d_T_requireZone_19 : decode b_T_requireZone 19 = .ok (.ldc 182, 2) := by decide +kernel
theorem d_T_requireZone_21 : decode b_T_requireZone 21 = .ok (.invokespecial 140, 3) := by decide +kernel
theorem d_T_requireZone_24 : decode b_T_requireZone 24 = .ok (.athrow, 1) := by decide +kernel
theorem d_T_requireZone_25 : decode b_T_requireZone 25 = .ok (.return_, 1) := by decide +kernel
theorem d_T_requireType_0 : decode b_T_requireType 0 = .ok (.iload_n 1, 1) := by decide +kernel
theorem d_T_requireType_1 : decode b_T_requireType 1 = .ok (.ifCond .lt 18, 3) := by decide +kernel
theorem d_T_requireType_4 : decode b_T_requireType 4 = .ok (.iload_n 1, 1) := by decide +kernel
theorem d_T_requireType_5 : decode b_T_requireType 5 = .ok (.bipush 6, 2) := by decide +kernel
theorem d_T_requireType_7 : decode b_T_requireType 7 = .ok (.if_icmp .ge 12, 3) := by decide +kernel
theorem d_T_requireType_10 : decode b_T_requireType 10 = .ok (.aload_n 0, 1) := by decide +kernel
theorem d_T_requireType_11 : decode b_T_requireType 11 = .ok (.getfield 18, 3) := by decide +kernel
theorem d_T_requireType_14 : decode b_T_requireType 14 = .ok (.iload_n 1, 1) := by decide +kernel
theorem d_T_requireType_15 : decode b_T_requireType 15 = .ok (.aaload, 1) := by decide +kernel
theorem d_T_requireType_16 : decode b_T_requireType 16 = .ok (.goto 4, 3) := by decide +kernel
theorem d_T_requireType_19 : decode b_T_requireType 19 = .ok (.aconst_null, 1) := by decide +kernel
theorem d_T_requireType_20 : decode b_T_requireType 20 = .ok (.astore_n 2, 1) := by decide +kernel
theorem d_T_requireType_21 : decode b_T_requireType 21 = .ok (.aload_n 2, 1) := by decide +kernel
theorem d_T_requireType_22 : decode b_T_requireType 22 = .ok (.ifnonnull 13, 3) := by decide +kernel
theorem d_T_requireType_25 : decode b_T_requireType 25 = .ok (.new 136, 3) := by decide +kernel
theorem d_T_requireType_28 : decode b_T_requireType 28 = .ok (.dup, 1) := by decide +kernel
theorem d_T_requireType_29 : decode b_T_requireType 29 = .ok (.ldc 184, 2) := by decide +kernel
theorem d_T_requireType_31 : decode b_T_requireType 31 = .ok (.invokespecial 140, 3) := by decide +kernel
theorem d_T_requireType_34 : decode b_T_requireType 34 = .ok (.athrow, 1) := by decide +kernel
theorem d_T_requireType_35 : decode b_T_requireType 35 = .ok (.aload_n 2, 1) := by decide +kernel
theorem d_T_requireType_36 : decode b_T_requireType 36 = .ok (.areturn, 1) := by decide +kernel
theorem d_T_requireSomeFloor_0 : decode b_T_requireSomeFloor 0 = .ok (.aload_n 0, 1) := by decide +kernel
theorem d_T_requireSomeFloor_1 : decode b_T_requireSomeFloor 1 = .ok (.getfield 10, 3) := by decide +kernel
theorem d_T_requireSomeFloor_4 : decode b_T_requireSomeFloor 4 = .ok (.getfield 51, 3) := by decide +kernel
theorem d_T_requireSomeFloor_7 : decode b_T_requireSomeFloor 7 = .ok (.ifCond .ne 13, 3) := by decide +kernel
theorem d_T_requireSomeFloor_10 : decode b_T_requireSomeFloor 10 = .ok (.new 54, 3) := by decide +kernel
theorem d_T_requireSomeFloor_13 : decode b_T_requireSomeFloor 13 = .ok (.dup, 1) := by decide +kernel
theorem d_T_requireSomeFloor_14 : decode b_T_requireSomeFloor 14 = .ok (.ldc 186, 2) := by decide +kernel
theorem d_T_requireSomeFloor_16 : decode b_T_requireSomeFloor 16 = .ok (.invokespecial 58, 3) := by decide +kernel
theorem d_T_requireSomeFloor_19 : decode b_T_requireSomeFloor 19 = .ok (.athrow, 1) := by decide +kernel
theorem d_T_requireSomeFloor_20 : decode b_T_requireSomeFloor 20 = .ok (.return_, 1) := by decide +kernel
theorem d_T_requireRoomForAll_0 : decode b_T_requireRoomForAll 0 = .ok (.iload_n 0, 1) := by decide +kernel
theorem d_T_requireRoomForAll_1 : decode b_T_requireRoomForAll 1 = .ok (.sipush 200, 3) := by decide +kernel
theorem d_T_requireRoomForAll_4 : decode b_T_requireRoomForAll 4 = .ok (.if_icmp .le 13, 3) := by decide +kernel
theorem d_T_requireRoomForAll_7 : decode b_T_requireRoomForAll 7 = .ok (.new 54, 3) := by decide +kernel
theorem d_T_requireRoomForAll_10 : decode b_T_requireRoomForAll 10 = .ok (.dup, 1) := by decide +kernel
theorem d_T_requireRoomForAll_11 : decode b_T_requireRoomForAll 11 = .ok (.ldc 188, 2) := by decide +kernel
theorem d_T_requireRoomForAll_13 : decode b_T_requireRoomForAll 13 = .ok (.invokespecial 58, 3) := by decide +kernel
theorem d_T_requireRoomForAll_16 : decode b_T_requireRoomForAll 16 = .ok (.athrow, 1) := by decide +kernel
theorem d_T_requireRoomForAll_17 : decode b_T_requireRoomForAll 17 = .ok (.return_, 1) := by decide +kernel
theorem d_T_countOdds_0 : decode b_T_countOdds 0 = .ok (.aload_n 0, 1) := by decide +kernel
theorem d_T_countOdds_1 : decode b_T_countOdds 1 = .ok (.iload_n 1, 1) := by decide +kernel
theorem d_T_countOdds_2 : decode b_T_countOdds 2 = .ok (.invokevirtual 110, 3) := by decide +kernel
theorem d_T_countOdds_5 : decode b_T_countOdds 5 = .ok (.astore 5, 2) := by decide +kernel
theorem d_T_countOdds_7 : decode b_T_countOdds 7 = .ok (.aload_n 0, 1) := by decide +kernel
theorem d_T_countOdds_8 : decode b_T_countOdds 8 = .ok (.iload_n 2, 1) := by decide +kernel
theorem d_T_countOdds_9 : decode b_T_countOdds 9 = .ok (.iload_n 3, 1) := by decide +kernel
theorem d_T_countOdds_10 : decode b_T_countOdds 10 = .ok (.invokevirtual 114, 3) := by decide +kernel
theorem d_T_countOdds_13 : decode b_T_countOdds 13 = .ok (.iload 4, 2) := by decide +kernel
theorem d_T_countOdds_15 : decode b_T_countOdds 15 = .ok (.iconst 0, 1) := by decide +kernel
theorem d_T_countOdds_16 : decode b_T_countOdds 16 = .ok (.iconst 1, 1) := by decide +kernel
theorem d_T_countOdds_17 : decode b_T_countOdds 17 = .ok (.invokestatic 47, 3) := by decide +kernel
theorem d_T_countOdds_20 : decode b_T_countOdds 20 = .ok (.aload_n 0, 1) := by decide +kernel
theorem d_T_countOdds_21 : decode b_T_countOdds 21 = .ok (.getfield 29, 3) := by decide +kernel
theorem d_T_countOdds_24 : decode b_T_countOdds 24 = .ok (.aload_n 0, 1) := by decide +kernel
theorem d_T_countOdds_25 : decode b_T_countOdds 25 = .ok (.getfield 10, 3) := by decide +kernel
theorem d_T_countOdds_28 : decode b_T_countOdds 28 = .ok (.aload 5, 2) := by decide +kernel
theorem d_T_countOdds_30 : decode b_T_countOdds 30 = .ok (.getfield 118, 3) := by decide +kernel
theorem d_T_countOdds_33 : decode b_T_countOdds 33 = .ok (.iload_n 2, 1) := by decide +kernel
theorem d_T_countOdds_34 : decode b_T_countOdds 34 = .ok (.iload_n 3, 1) := by decide +kernel
theorem d_T_countOdds_35 : decode b_T_countOdds 35 = .ok (.invokevirtual 121, 3) := by decide +kernel
theorem d_T_countOdds_38 : decode b_T_countOdds 38 = .ok (.aload 5, 2) := by decide +kernel
theorem d_T_countOdds_40 : decode b_T_countOdds 40 = .ok (.areturn, 1) := by decide +kernel
theorem d_T_fewestCars_0 : decode b_T_fewestCars 0 = .ok (.aload_n 0, 1) := by decide +kernel
theorem d_T_fewestCars_1 : decode b_T_fewestCars 1 = .ok (.getfield 29, 3) := by decide +kernel
theorem d_T_fewestCars_4 : decode b_T_fewestCars 4 = .ok (.aload_n 0, 1) := by decide +kernel
theorem d_T_fewestCars_5 : decode b_T_fewestCars 5 = .ok (.getfield 10, 3) := by decide +kernel
theorem d_T_fewestCars_8 : decode b_T_fewestCars 8 = .ok (.aload_n 1, 1) := by decide +kernel
theorem d_T_fewestCars_9 : decode b_T_fewestCars 9 = .ok (.getfield 118, 3) := by decide +kernel
theorem d_T_fewestCars_12 : decode b_T_fewestCars 12 = .ok (.iconst 1, 1) := by decide +kernel
theorem d_T_fewestCars_13 : decode b_T_fewestCars 13 = .ok (.aload_n 0, 1) := by decide +kernel
theorem d_T_fewestCars_14 : decode b_T_fewestCars 14 = .ok (.getfield 10, 3) := by decide +kernel
theorem d_T_fewestCars_17 : decode b_T_fewestCars 17 = .ok (.getfield 51, 3) := by decide +kernel
theorem d_T_fewestCars_20 : decode b_T_fewestCars 20 = .ok (.invokevirtual 121, 3) := by decide +kernel
theorem d_T_fewestCars_23 : decode b_T_fewestCars 23 = .ok (.iconst 1, 1) := by decide +kernel
theorem d_T_fewestCars_24 : decode b_T_fewestCars 24 = .ok (.istore_n 3, 1) := by decide +kernel
theorem d_T_fewestCars_25 : decode b_T_fewestCars 25 = .ok (.iload_n 3, 1) := by decide +kernel
theorem d_T_fewestCars_26 : decode b_T_fewestCars 26 = .ok (.bipush 6, 2) := by decide +kernel
theorem d_T_fewestCars_28 : decode b_T_fewestCars 28 = .ok (.if_icmp .gt 26, 3) := by decide +kernel
theorem d_T_fewestCars_31 : decode b_T_fewestCars 31 = .ok (.aload_n 0, 1) := by decide +kernel
theorem d_T_fewestCars_32 : decode b_T_fewestCars 32 = .ok (.getfield 29, 3) := by decide +kernel
theorem d_T_fewestCars_35 : decode b_T_fewestCars 35 = .ok (.iload_n 3, 1) := by decide +kernel
theorem d_T_fewestCars_36 : decode b_T_fewestCars 36 = .ok (.aload_n 1, 1) := by decide +kernel
theorem d_T_fewestCars_37 : decode b_T_fewestCars 37 = .ok (.invokevirtual 132, 3) := by decide +kernel
theorem d_T_fewestCars_40 : decode b_T_fewestCars 40 = .ok (.iload_n 2, 1) := by decide +kernel
theorem d_T_fewestCars_41 : decode b_T_fewestCars 41 = .ok (.i2l, 1) := by decide +kernel
theorem d_T_fewestCars_42 : decode b_T_fewestCars 42 = .ok (.lcmp, 1) := by decide +kernel
theorem d_T_fewestCars_43 : decode b_T_fewestCars 43 = .ok (.ifCond .lt 5, 3) := by decide +kernel
theorem d_T_fewestCars_46 : decode b_T_fewestCars 46 = .ok (.iload_n 3, 1) := by decide +kernel
theorem d_T_fewestCars_47 : decode b_T_fewestCars 47 = .ok (.ireturn, 1) := by decide +kernel
theorem d_T_fewestCars_48 : decode b_T_fewestCars 48 = .ok (.iinc 3 1, 3) := by decide +kernel
theorem d_T_fewestCars_51 : decode b_T_fewestCars 51 = .ok (.goto (-26), 3) := by decide +kernel
theorem d_T_fewestCars_54 : decode b_T_fewestCars 54 = .ok (.iconst (-1), 1) := by decide +kernel
theorem d_T_fewestCars_55 : decode b_T_fewestCars 55 = .ok (.ireturn, 1) := by decide +kernel
theorem d_T_partInLowestTerms_0 : decode b_T_partInLowestTerms 0 = .ok (.lload_n 0, 1) := by decide +kernel
theorem d_T_partInLowestTerms_1 : decode b_T_partInLowestTerms 1 = .ok (.lload_n 2, 1) := by decide +kernel
theorem d_T_partInLowestTerms_2 : decode b_T_partInLowestTerms 2 = .ok (.invokestatic 190, 3) := by decide +kernel
theorem d_T_partInLowestTerms_5 : decode b_T_partInLowestTerms 5 = .ok (.lstore 5, 2) := by decide +kernel
theorem d_T_partInLowestTerms_7 : decode b_T_partInLowestTerms 7 = .ok (.iload 4, 2) := by decide +kernel
theorem d_T_partInLowestTerms_9 : decode b_T_partInLowestTerms 9 = .ok (.ifCond .ne 10, 3) := by decide +kernel
theorem d_T_partInLowestTerms_12 : decode b_T_partInLowestTerms 12 = .ok (.lload_n 0, 1) := by decide +kernel
theorem d_T_partInLowestTerms_13 : decode b_T_partInLowestTerms 13 = .ok (.lload 5, 2) := by decide +kernel
theorem d_T_partInLowestTerms_15 : decode b_T_partInLowestTerms 15 = .ok (.ldiv, 1) := by decide +kernel
theorem d_T_partInLowestTerms_16 : decode b_T_partInLowestTerms 16 = .ok (.goto 7, 3) := by decide +kernel
theorem d_T_partInLowestTerms_19 : decode b_T_partInLowestTerms 19 = .ok (.lload_n 2, 1) := by decide +kernel
theorem d_T_partInLowestTerms_20 : decode b_T_partInLowestTerms 20 = .ok (.lload 5, 2) := by decide +kernel
theorem d_T_partInLowestTerms_22 : decode b_T_partInLowestTerms 22 = .ok (.ldiv, 1) := by decide +kernel
theorem d_T_partInLowestTerms_23 : decode b_T_partInLowestTerms 23 = .ok (.lreturn, 1) := by decide +kernel
theorem d_T_commonDivisor_0 : decode b_T_commonDivisor 0 = .ok (.lload_n 0, 1) := by decide +kernel
theorem d_T_commonDivisor_1 : decode b_T_commonDivisor 1 = .ok (.lstore 4, 2) := by decide +kernel
theorem d_T_commonDivisor_3 : decode b_T_commonDivisor 3 = .ok (.lload_n 2, 1) := by decide +kernel
theorem d_T_commonDivisor_4 : decode b_T_commonDivisor 4 = .ok (.lstore 6, 2) := by decide +kernel
theorem d_T_commonDivisor_6 : decode b_T_commonDivisor 6 = .ok (.iconst 0, 1) := by decide +kernel
theorem d_T_commonDivisor_7 : decode b_T_commonDivisor 7 = .ok (.istore 8, 2) := by decide +kernel
theorem d_T_commonDivisor_9 : decode b_T_commonDivisor 9 = .ok (.iload 8, 2) := by decide +kernel
theorem d_T_commonDivisor_11 : decode b_T_commonDivisor 11 = .ok (.bipush 100, 2) := by decide +kernel
theorem d_T_commonDivisor_13 : decode b_T_commonDivisor 13 = .ok (.if_icmp .ge 31, 3) := by decide +kernel
theorem d_T_commonDivisor_16 : decode b_T_commonDivisor 16 = .ok (.lload 6, 2) := by decide +kernel
theorem d_T_commonDivisor_18 : decode b_T_commonDivisor 18 = .ok (.lconst 0, 1) := by decide +kernel
theorem d_T_commonDivisor_19 : decode b_T_commonDivisor 19 = .ok (.lcmp, 1) := by decide +kernel
theorem d_T_commonDivisor_20 : decode b_T_commonDivisor 20 = .ok (.ifCond .eq 24, 3) := by decide +kernel
theorem d_T_commonDivisor_23 : decode b_T_commonDivisor 23 = .ok (.lload 4, 2) := by decide +kernel
theorem d_T_commonDivisor_25 : decode b_T_commonDivisor 25 = .ok (.lload 6, 2) := by decide +kernel
theorem d_T_commonDivisor_27 : decode b_T_commonDivisor 27 = .ok (.lrem, 1) := by decide +kernel
theorem d_T_commonDivisor_28 : decode b_T_commonDivisor 28 = .ok (.lstore 9, 2) := by decide +kernel
theorem d_T_commonDivisor_30 : decode b_T_commonDivisor 30 = .ok (.lload 6, 2) := by decide +kernel
theorem d_T_commonDivisor_32 : decode b_T_commonDivisor 32 = .ok (.lstore 4, 2) := by decide +kernel
theorem d_T_commonDivisor_34 : decode b_T_commonDivisor 34 = .ok (.lload 9, 2) := by decide +kernel
theorem d_T_commonDivisor_36 : decode b_T_commonDivisor 36 = .ok (.lstore 6, 2) := by decide +kernel
theorem d_T_commonDivisor_38 : decode b_T_commonDivisor 38 = .ok (.iinc 8 1, 3) := by decide +kernel
theorem d_T_commonDivisor_41 : decode b_T_commonDivisor 41 = .ok (.goto (-32), 3) := by decide +kernel
theorem d_T_commonDivisor_44 : decode b_T_commonDivisor 44 = .ok (.lload 4, 2) := by decide +kernel
theorem d_T_commonDivisor_46 : decode b_T_commonDivisor 46 = .ok (.lconst 0, 1) := by decide +kernel
theorem d_T_commonDivisor_47 : decode b_T_commonDivisor 47 = .ok (.lcmp, 1) := by decide +kernel
theorem d_T_commonDivisor_48 : decode b_T_commonDivisor 48 = .ok (.ifCond .le 8, 3) := by decide +kernel
theorem d_T_commonDivisor_51 : decode b_T_commonDivisor 51 = .ok (.lload 4, 2) := by decide +kernel
theorem d_T_commonDivisor_53 : decode b_T_commonDivisor 53 = .ok (.goto 4, 3) := by decide +kernel
theorem d_T_commonDivisor_56 : decode b_T_commonDivisor 56 = .ok (.lconst 1, 1) := by decide +kernel
theorem d_T_commonDivisor_57 : decode b_T_commonDivisor 57 = .ok (.lreturn, 1) := by decide +kernel
theorem d_T_orderOfFractions_0 : decode b_T_orderOfFractions 0 = .ok (.lload_n 0, 1) := by decide +kernel
theorem d_T_orderOfFractions_1 : decode b_T_orderOfFractions 1 = .ok (.lstore 8, 2) := by decide +kernel
theorem d_T_orderOfFractions_3 : decode b_T_orderOfFractions 3 = .ok (.lload_n 2, 1) := by decide +kernel
theorem d_T_orderOfFractions_4 : decode b_T_orderOfFractions 4 = .ok (.lstore 10, 2) := by decide +kernel
theorem d_T_orderOfFractions_6 : decode b_T_orderOfFractions 6 = .ok (.lload 4, 2) := by decide +kernel
theorem d_T_orderOfFractions_8 : decode b_T_orderOfFractions 8 = .ok (.lstore 12, 2) := by decide +kernel
theorem d_T_orderOfFractions_10 : decode b_T_orderOfFractions 10 = .ok (.lload 6, 2) := by decide +kernel
theorem d_T_orderOfFractions_12 : decode b_T_orderOfFractions 12 = .ok (.lstore 14, 2) := by decide +kernel
theorem d_T_orderOfFractions_14 : decode b_T_orderOfFractions 14 = .ok (.iconst 1, 1) := by decide +kernel
theorem d_T_orderOfFractions_15 : decode b_T_orderOfFractions 15 = .ok (.istore 16, 2) := by decide +kernel
theorem d_T_orderOfFractions_17 : decode b_T_orderOfFractions 17 = .ok (.iconst 0, 1) := by decide +kernel
theorem d_T_orderOfFractions_18 : decode b_T_orderOfFractions 18 = .ok (.istore 17, 2) := by decide +kernel
theorem d_T_orderOfFractions_20 : decode b_T_orderOfFractions 20 = .ok (.iload 17, 2) := by decide +kernel
theorem d_T_orderOfFractions_22 : decode b_T_orderOfFractions 22 = .ok (.bipush 100, 2) := by decide +kernel
theorem d_T_orderOfFractions_24 : decode b_T_orderOfFractions 24 = .ok (.if_icmp .ge 103, 3) := by decide +kernel
theorem d_T_orderOfFractions_27 : decode b_T_orderOfFractions 27 = .ok (.lload 10, 2) := by decide +kernel
theorem d_T_orderOfFractions_29 : decode b_T_orderOfFractions 29 = .ok (.lconst 0, 1) := by decide +kernel
theorem d_T_orderOfFractions_30 : decode b_T_orderOfFractions 30 = .ok (.lcmp, 1) := by decide +kernel
theorem d_T_orderOfFractions_31 : decode b_T_orderOfFractions 31 = .ok (.ifCond .eq 96, 3) := by decide +kernel
theorem d_T_orderOfFractions_34 : decode b_T_orderOfFractions 34 = .ok (.lload 14, 2) := by decide +kernel
theorem d_T_orderOfFractions_36 : decode b_T_orderOfFractions 36 = .ok (.lconst 0, 1) := by decide +kernel
theorem d_T_orderOfFractions_37 : decode b_T_orderOfFractions 37 = .ok (.lcmp, 1) := by decide +kernel
theorem d_T_orderOfFractions_38 : decode b_T_orderOfFractions 38 = .ok (.ifCond .eq 89, 3) := by decide +kernel
theorem d_T_orderOfFractions_41 : decode b_T_orderOfFractions 41 = .ok (.lload 8, 2) := by decide +kernel
theorem d_T_orderOfFractions_43 : decode b_T_orderOfFractions 43 = .ok (.lload 10, 2) := by decide +kernel
theorem d_T_orderOfFractions_45 : decode b_T_orderOfFractions 45 = .ok (.ldiv, 1) := by decide +kernel
theorem d_T_orderOfFractions_46 : decode b_T_orderOfFractions 46 = .ok (.lstore 18, 2) := by decide +kernel
theorem d_T_orderOfFractions_48 : decode b_T_orderOfFractions 48 = .ok (.lload 12, 2) := by decide +kernel
theorem d_T_orderOfFractions_50 : decode b_T_orderOfFractions 50 = .ok (.lload 14, 2) := by decide +kernel
theorem d_T_orderOfFractions_52 : decode b_T_orderOfFractions 52 = .ok (.ldiv, 1) := by decide +kernel
theorem d_T_orderOfFractions_53 : decode b_T_orderOfFractions 53 = .ok (.lstore 20, 2) := by decide +kernel
theorem d_T_orderOfFractions_55 : decode b_T_orderOfFractions 55 = .ok (.lload 18, 2) := by decide +kernel
theorem d_T_orderOfFractions_57 : decode b_T_orderOfFractions 57 = .ok (.lload 20, 2) := by decide +kernel
theorem d_T_orderOfFractions_59 : decode b_T_orderOfFractions 59 = .ok (.lcmp, 1) := by decide +kernel
theorem d_T_orderOfFractions_60 : decode b_T_orderOfFractions 60 = .ok (.ifCond .eq 20, 3) := by decide +kernel
theorem d_T_orderOfFractions_63 : decode b_T_orderOfFractions 63 = .ok (.lload 18, 2) := by decide +kernel
theorem d_T_orderOfFractions_65 : decode b_T_orderOfFractions 65 = .ok (.lload 20, 2) := by decide +kernel
theorem d_T_orderOfFractions_67 : decode b_T_orderOfFractions 67 = .ok (.lcmp, 1) := by decide +kernel
theorem d_T_orderOfFractions_68 : decode b_T_orderOfFractions 68 = .ok (.ifCond .ge 9, 3) := by decide +kernel
theorem d_T_orderOfFractions_71 : decode b_T_orderOfFractions 71 = .ok (.iload 16, 2) := by decide +kernel
theorem d_T_orderOfFractions_73 : decode b_T_orderOfFractions 73 = .ok (.ineg, 1) := by decide +kernel
theorem d_T_orderOfFractions_74 : decode b_T_orderOfFractions 74 = .ok (.goto 5, 3) := by decide +kernel
theorem d_T_orderOfFractions_77 : decode b_T_orderOfFractions 77 = .ok (.iload 16, 2) := by decide +kernel
theorem d_T_orderOfFractions_79 : decode b_T_orderOfFractions 79 = .ok (.ireturn, 1) := by decide +kernel
theorem d_T_orderOfFractions_80 : decode b_T_orderOfFractions 80 = .ok (.lload 8, 2) := by decide +kernel
theorem d_T_orderOfFractions_82 : decode b_T_orderOfFractions 82 = .ok (.lload 18, 2) := by decide +kernel
theorem d_T_orderOfFractions_84 : decode b_T_orderOfFractions 84 = .ok (.lload 10, 2) := by decide +kernel
theorem d_T_orderOfFractions_86 : decode b_T_orderOfFractions 86 = .ok (.lmul, 1) := by decide +kernel
theorem d_T_orderOfFractions_87 : decode b_T_orderOfFractions 87 = .ok (.lsub, 1) := by decide +kernel
theorem d_T_orderOfFractions_88 : decode b_T_orderOfFractions 88 = .ok (.lstore 22, 2) := by decide +kernel
theorem d_T_orderOfFractions_90 : decode b_T_orderOfFractions 90 = .ok (.lload 12, 2) := by decide +kernel
theorem d_T_orderOfFractions_92 : decode b_T_orderOfFractions 92 = .ok (.lload 20, 2) := by decide +kernel
theorem d_T_orderOfFractions_94 : decode b_T_orderOfFractions 94 = .ok (.lload 14, 2) := by decide +kernel
theorem d_T_orderOfFractions_96 : decode b_T_orderOfFractions 96 = .ok (.lmul, 1) := by decide +kernel
theorem d_T_orderOfFractions_97 : decode b_T_orderOfFractions 97 = .ok (.lsub, 1) := by decide +kernel
theorem d_T_orderOfFractions_98 : decode b_T_orderOfFractions 98 = .ok (.lstore 24, 2) := by decide +kernel
theorem d_T_orderOfFractions_100 : decode b_T_orderOfFractions 100 = .ok (.lload 10, 2) := by decide +kernel
theorem d_T_orderOfFractions_102 : decode b_T_orderOfFractions 102 = .ok (.lstore 8, 2) := by decide +kernel
theorem d_T_orderOfFractions_104 : decode b_T_orderOfFractions 104 = .ok (.lload 22, 2) := by decide +kernel
theorem d_T_orderOfFractions_106 : decode b_T_orderOfFractions 106 = .ok (.lstore 10, 2) := by decide +kernel
theorem d_T_orderOfFractions_108 : decode b_T_orderOfFractions 108 = .ok (.lload 14, 2) := by decide +kernel
theorem d_T_orderOfFractions_110 : decode b_T_orderOfFractions 110 = .ok (.lstore 12, 2) := by decide +kernel
theorem d_T_orderOfFractions_112 : decode b_T_orderOfFractions 112 = .ok (.lload 24, 2) := by decide +kernel
theorem d_T_orderOfFractions_114 : decode b_T_orderOfFractions 114 = .ok (.lstore 14, 2) := by decide +kernel
theorem d_T_orderOfFractions_116 : decode b_T_orderOfFractions 116 = .ok (.iload 16, 2) := by decide +kernel
theorem d_T_orderOfFractions_118 : decode b_T_orderOfFractions 118 = .ok (.ineg, 1) := by decide +kernel
theorem d_T_orderOfFractions_119 : decode b_T_orderOfFractions 119 = .ok (.istore 16, 2) := by decide +kernel
theorem d_T_orderOfFractions_121 : decode b_T_orderOfFractions 121 = .ok (.iinc 17 1, 3) := by decide +kernel
theorem d_T_orderOfFractions_124 : decode b_T_orderOfFractions 124 = .ok (.goto (-104), 3) := by decide +kernel
theorem d_T_orderOfFractions_127 : decode b_T_orderOfFractions 127 = .ok (.lload 10, 2) := by decide +kernel
theorem d_T_orderOfFractions_129 : decode b_T_orderOfFractions 129 = .ok (.lconst 0, 1) := by decide +kernel
theorem d_T_orderOfFractions_130 : decode b_T_orderOfFractions 130 = .ok (.lcmp, 1) := by decide +kernel
theorem d_T_orderOfFractions_131 : decode b_T_orderOfFractions 131 = .ok (.ifCond .ne 17, 3) := by decide +kernel
theorem d_T_orderOfFractions_134 : decode b_T_orderOfFractions 134 = .ok (.lload 14, 2) := by decide +kernel
theorem d_T_orderOfFractions_136 : decode b_T_orderOfFractions 136 = .ok (.lconst 0, 1) := by decide +kernel
theorem d_T_orderOfFractions_137 : decode b_T_orderOfFractions 137 = .ok (.lcmp, 1) := by decide +kernel
theorem d_T_orderOfFractions_138 : decode b_T_orderOfFractions 138 = .ok (.ifCond .ne 7, 3) := by decide +kernel
theorem d_T_orderOfFractions_141 : decode b_T_orderOfFractions 141 = .ok (.iconst 0, 1) := by decide +kernel
theorem d_T_orderOfFractions_142 : decode b_T_orderOfFractions 142 = .ok (.goto 5, 3) := by decide +kernel
theorem d_T_orderOfFractions_145 : decode b_T_orderOfFractions 145 = .ok (.iload 16, 2) := by decide +kernel
theorem d_T_orderOfFractions_147 : decode b_T_orderOfFractions 147 = .ok (.ireturn, 1) := by decide +kernel
theorem d_T_orderOfFractions_148 : decode b_T_orderOfFractions 148 = .ok (.iload 16, 2) := by decide +kernel
theorem d_T_orderOfFractions_150 : decode b_T_orderOfFractions 150 = .ok (.ineg, 1) := by decide +kernel
theorem d_T_orderOfFractions_151 : decode b_T_orderOfFractions 151 = .ok (.ireturn, 1) := by decide +kernel
theorem d_B_init_0 : decode b_B_init 0 = .ok (.aload_n 0, 1) := by decide +kernel
theorem d_B_init_1 : decode b_B_init 1 = .ok (.invokespecial 3, 3) := by decide +kernel
theorem d_B_init_4 : decode b_B_init 4 = .ok (.aload_n 0, 1) := by decide +kernel
theorem d_B_init_5 : decode b_B_init 5 = .ok (.bipush 13, 2) := by decide +kernel
theorem d_B_init_7 : decode b_B_init 7 = .ok (.newarray .int, 2) := by decide +kernel
theorem d_B_init_9 : decode b_B_init 9 = .ok (.putfield 9, 3) := by decide +kernel
theorem d_B_init_12 : decode b_B_init 12 = .ok (.aload_n 0, 1) := by decide +kernel
theorem d_B_init_13 : decode b_B_init 13 = .ok (.bipush 13, 2) := by decide +kernel
theorem d_B_init_15 : decode b_B_init 15 = .ok (.newarray .int, 2) := by decide +kernel
theorem d_B_init_17 : decode b_B_init 17 = .ok (.putfield 15, 3) := by decide +kernel
theorem d_B_init_20 : decode b_B_init 20 = .ok (.return_, 1) := by decide +kernel
theorem d_B_addFloor_0 : decode b_B_addFloor 0 = .ok (.aload_n 0, 1) := by decide +kernel
theorem d_B_addFloor_1 : decode b_B_addFloor 1 = .ok (.getfield 18, 3) := by decide +kernel
theorem d_B_addFloor_4 : decode b_B_addFloor 4 = .ok (.iconst 1, 1) := by decide +kernel
theorem d_B_addFloor_5 : decode b_B_addFloor 5 = .ok (.iadd, 1) := by decide +kernel
theorem d_B_addFloor_6 : decode b_B_addFloor 6 = .ok (.istore_n 3, 1) := by decide +kernel
theorem d_B_addFloor_7 : decode b_B_addFloor 7 = .ok (.iload_n 3, 1) := by decide +kernel
theorem d_B_addFloor_8 : decode b_B_addFloor 8 = .ok (.bipush 12, 2) := by decide +kernel
theorem d_B_addFloor_10 : decode b_B_addFloor 10 = .ok (.if_icmp .gt 41, 3) := by decide +kernel
theorem d_B_addFloor_13 : decode b_B_addFloor 13 = .ok (.aload_n 0, 1) := by decide +kernel
theorem d_B_addFloor_14 : decode b_B_addFloor 14 = .ok (.getfield 9, 3) := by decide +kernel
theorem d_B_addFloor_17 : decode b_B_addFloor 17 = .ok (.iload_n 3, 1) := by decide +kernel
theorem d_B_addFloor_18 : decode b_B_addFloor 18 = .ok (.iload_n 1, 1) := by decide +kernel
theorem d_B_addFloor_19 : decode b_B_addFloor 19 = .ok (.iastore, 1) := by decide +kernel
theorem d_B_addFloor_20 : decode b_B_addFloor 20 = .ok (.aload_n 0, 1) := by decide +kernel
theorem d_B_addFloor_21 : decode b_B_addFloor 21 = .ok (.getfield 15, 3) := by decide +kernel
theorem d_B_addFloor_24 : decode b_B_addFloor 24 = .ok (.iload_n 3, 1) := by decide +kernel
theorem d_B_addFloor_25 : decode b_B_addFloor 25 = .ok (.aload_n 0, 1) := by decide +kernel
theorem d_B_addFloor_26 : decode b_B_addFloor 26 = .ok (.getfield 15, 3) := by decide +kernel
theorem d_B_addFloor_29 : decode b_B_addFloor 29 = .ok (.iload_n 3, 1) := by decide +kernel
theorem d_B_addFloor_30 : decode b_B_addFloor 30 = .ok (.iconst 1, 1) := by decide +kernel
theorem d_B_addFloor_31 : decode b_B_addFloor 31 = .ok (.isub, 1) := by decide +kernel
theorem d_B_addFloor_32 : decode b_B_addFloor 32 = .ok (.iaload, 1) := by decide +kernel
theorem d_B_addFloor_33 : decode b_B_addFloor 33 = .ok (.iload_n 2, 1) := by decide +kernel
theorem d_B_addFloor_34 : decode b_B_addFloor 34 = .ok (.iadd, 1) := by decide +kernel
theorem d_B_addFloor_35 : decode b_B_addFloor 35 = .ok (.iastore, 1) := by decide +kernel
theorem d_B_addFloor_36 : decode b_B_addFloor 36 = .ok (.aload_n 0, 1) := by decide +kernel
theorem d_B_addFloor_37 : decode b_B_addFloor 37 = .ok (.iload_n 3, 1) := by decide +kernel
theorem d_B_addFloor_38 : decode b_B_addFloor 38 = .ok (.putfield 18, 3) := by decide +kernel
theorem d_B_addFloor_41 : decode b_B_addFloor 41 = .ok (.aload_n 0, 1) := by decide +kernel
theorem d_B_addFloor_42 : decode b_B_addFloor 42 = .ok (.dup, 1) := by decide +kernel
theorem d_B_addFloor_43 : decode b_B_addFloor 43 = .ok (.getfield 22, 3) := by decide +kernel
theorem d_B_addFloor_46 : decode b_B_addFloor 46 = .ok (.iload_n 1, 1) := by decide +kernel
theorem d_B_addFloor_47 : decode b_B_addFloor 47 = .ok (.iadd, 1) := by decide +kernel
theorem d_B_addFloor_48 : decode b_B_addFloor 48 = .ok (.putfield 22, 3) := by decide +kernel
theorem d_B_addFloor_51 : decode b_B_addFloor 51 = .ok (.iload_n 3, 1) := by decide +kernel
theorem d_B_addFloor_52 : decode b_B_addFloor 52 = .ok (.ireturn, 1) := by decide +kernel
theorem d_B_personsBetween_0 : decode b_B_personsBetween 0 = .ok (.iconst 0, 1) := by decide +kernel
theorem d_B_personsBetween_1 : decode b_B_personsBetween 1 = .ok (.istore_n 3, 1) := by decide +kernel
theorem d_B_personsBetween_2 : decode b_B_personsBetween 2 = .ok (.iload_n 1, 1) := by decide +kernel
theorem d_B_personsBetween_3 : decode b_B_personsBetween 3 = .ok (.istore 4, 2) := by decide +kernel
theorem d_B_personsBetween_5 : decode b_B_personsBetween 5 = .ok (.iload 4, 2) := by decide +kernel
theorem d_B_personsBetween_7 : decode b_B_personsBetween 7 = .ok (.iload_n 2, 1) := by decide +kernel
theorem d_B_personsBetween_8 : decode b_B_personsBetween 8 = .ok (.if_icmp .gt 19, 3) := by decide +kernel
theorem d_B_personsBetween_11 : decode b_B_personsBetween 11 = .ok (.iload_n 3, 1) := by decide +kernel
theorem d_B_personsBetween_12 : decode b_B_personsBetween 12 = .ok (.aload_n 0, 1) := by decide +kernel
theorem d_B_personsBetween_13 : decode b_B_personsBetween 13 = .ok (.getfield 9, 3) := by decide +kernel
theorem d_B_personsBetween_16 : decode b_B_personsBetween 16 = .ok (.iload 4, 2) := by decide +kernel
theorem d_B_personsBetween_18 : decode b_B_personsBetween 18 = .ok (.iaload, 1) := by decide +kernel
theorem d_B_personsBetween_19 : decode b_B_personsBetween 19 = .ok (.iadd, 1) := by decide +kernel
theorem d_B_personsBetween_20 : decode b_B_personsBetween 20 = .ok (.istore_n 3, 1) := by decide +kernel
theorem d_B_personsBetween_21 : decode b_B_personsBetween 21 = .ok (.iinc 4 1, 3) := by decide +kernel
theorem d_B_personsBetween_24 : decode b_B_personsBetween 24 = .ok (.goto (-19), 3) := by decide +kernel
theorem d_B_personsBetween_27 : decode b_B_personsBetween 27 = .ok (.iload_n 3, 1) := by decide +kernel
theorem d_B_personsBetween_28 : decode b_B_personsBetween 28 = .ok (.ireturn, 1) := by decide +kernel
theorem d_C_init_0 : decode b_C_init 0 = .ok (.aload_n 0, 1) := by decide +kernel
theorem d_C_init_1 : decode b_C_init 1 = .ok (.invokespecial 1, 3) := by decide +kernel
theorem d_C_init_4 : decode b_C_init 4 = .ok (.aload_n 0, 1) := by decide +kernel
theorem d_C_init_5 : decode b_C_init 5 = .ok (.iload_n 1, 1) := by decide +kernel
theorem d_C_init_6 : decode b_C_init 6 = .ok (.putfield 7, 3) := by decide +kernel
theorem d_C_init_9 : decode b_C_init 9 = .ok (.aload_n 0, 1) := by decide +kernel
theorem d_C_init_10 : decode b_C_init 10 = .ok (.iload_n 2, 1) := by decide +kernel
theorem d_C_init_11 : decode b_C_init 11 = .ok (.putfield 13, 3) := by decide +kernel
theorem d_C_init_14 : decode b_C_init 14 = .ok (.aload_n 0, 1) := by decide +kernel
theorem d_C_init_15 : decode b_C_init 15 = .ok (.iload_n 3, 1) := by decide +kernel
theorem d_C_init_16 : decode b_C_init 16 = .ok (.putfield 16, 3) := by decide +kernel
theorem d_C_init_19 : decode b_C_init 19 = .ok (.aload_n 0, 1) := by decide +kernel
theorem d_C_init_20 : decode b_C_init 20 = .ok (.iload 4, 2) := by decide +kernel
theorem d_C_init_22 : decode b_C_init 22 = .ok (.putfield 19, 3) := by decide +kernel
theorem d_C_init_25 : decode b_C_init 25 = .ok (.aload_n 0, 1) := by decide +kernel
theorem d_C_init_26 : decode b_C_init 26 = .ok (.iload 5, 2) := by decide +kernel
theorem d_C_init_28 : decode b_C_init 28 = .ok (.putfield 22, 3) := by decide +kernel
theorem d_C_init_31 : decode b_C_init 31 = .ok (.return_, 1) := by decide +kernel
theorem d_O_init_0 : decode b_O_init 0 = .ok (.aload_n 0, 1) := by decide +kernel
theorem d_O_init_1 : decode b_O_init 1 = .ok (.invokespecial 3, 3) := by decide +kernel
theorem d_O_init_4 : decode b_O_init 4 = .ok (.aload_n 0, 1) := by decide +kernel
theorem d_O_init_5 : decode b_O_init 5 = .ok (.iconst 1, 1) := by decide +kernel
theorem d_O_init_6 : decode b_O_init 6 = .ok (.putfield 9, 3) := by decide +kernel
theorem d_O_init_9 : decode b_O_init 9 = .ok (.aload_n 0, 1) := by decide +kernel
theorem d_O_init_10 : decode b_O_init 10 = .ok (.lconst 1, 1) := by decide +kernel
theorem d_O_init_11 : decode b_O_init 11 = .ok (.putfield 15, 3) := by decide +kernel
theorem d_O_init_14 : decode b_O_init 14 = .ok (.return_, 1) := by decide +kernel
theorem d_O_count_0 : decode b_O_count 0 = .ok (.aload_n 1, 1) := by decide +kernel
theorem d_O_count_1 : decode b_O_count 1 = .ok (.iload_n 3, 1) := by decide +kernel
theorem d_O_count_2 : decode b_O_count 2 = .ok (.iload 4, 2) := by decide +kernel
theorem d_O_count_4 : decode b_O_count 4 = .ok (.invokevirtual 19, 3) := by decide +kernel
theorem d_O_count_7 : decode b_O_count 7 = .ok (.istore 5, 2) := by decide +kernel
theorem d_O_count_9 : decode b_O_count 9 = .ok (.aload_n 0, 1) := by decide +kernel
theorem d_O_count_10 : decode b_O_count 10 = .ok (.iload 5, 2) := by decide +kernel
theorem d_O_count_12 : decode b_O_count 12 = .ok (.ifCond .ne 7, 3) := by decide +kernel
theorem d_O_count_15 : decode b_O_count 15 = .ok (.iconst 1, 1) := by decide +kernel
theorem d_O_count_16 : decode b_O_count 16 = .ok (.goto 4, 3) := by decide +kernel
theorem d_O_count_19 : decode b_O_count 19 = .ok (.iconst 0, 1) := by decide +kernel
theorem d_O_count_20 : decode b_O_count 20 = .ok (.putfield 9, 3) := by decide +kernel
theorem d_O_count_23 : decode b_O_count 23 = .ok (.aload_n 0, 1) := by decide +kernel
theorem d_O_count_24 : decode b_O_count 24 = .ok (.aload_n 0, 1) := by decide +kernel
theorem d_O_count_25 : decode b_O_count 25 = .ok (.getfield 9, 3) := by decide +kernel
theorem d_O_count_28 : decode b_O_count 28 = .ok (.ifCond .eq 7, 3) := by decide +kernel
theorem d_O_count_31 : decode b_O_count 31 = .ok (.lconst 1, 1) := by decide +kernel
theorem d_O_count_32 : decode b_O_count 32 = .ok (.goto 10, 3) := by decide +kernel
theorem d_O_count_35 : decode b_O_count 35 = .ok (.iload 5, 2) := by decide +kernel
theorem d_O_count_37 : decode b_O_count 37 = .ok (.i2l, 1) := by decide +kernel
theorem d_O_count_38 : decode b_O_count 38 = .ok (.iload_n 2, 1) := by decide +kernel
theorem d_O_count_39 : decode b_O_count 39 = .ok (.invokestatic 25, 3) := by decide +kernel
theorem d_O_count_42 : decode b_O_count 42 = .ok (.putfield 15, 3) := by decide +kernel
theorem d_O_count_45 : decode b_O_count 45 = .ok (.aload_n 0, 1) := by decide +kernel
theorem d_O_count_46 : decode b_O_count 46 = .ok (.lconst 0, 1) := by decide +kernel
theorem d_O_count_47 : decode b_O_count 47 = .ok (.putfield 29, 3) := by decide +kernel
theorem d_O_count_50 : decode b_O_count 50 = .ok (.aload_n 0, 1) := by decide +kernel
theorem d_O_count_51 : decode b_O_count 51 = .ok (.lconst 0, 1) := by decide +kernel
theorem d_O_count_52 : decode b_O_count 52 = .ok (.putfield 32, 3) := by decide +kernel
theorem d_O_count_55 : decode b_O_count 55 = .ok (.iconst 0, 1) := by decide +kernel
theorem d_O_count_56 : decode b_O_count 56 = .ok (.istore 6, 2) := by decide +kernel
theorem d_O_count_58 : decode b_O_count 58 = .ok (.lconst 0, 1) := by decide +kernel
theorem d_O_count_59 : decode b_O_count 59 = .ok (.lstore 7, 2) := by decide +kernel
theorem d_O_count_61 : decode b_O_count 61 = .ok (.iload_n 3, 1) := by decide +kernel
theorem d_O_count_62 : decode b_O_count 62 = .ok (.istore 9, 2) := by decide +kernel
theorem d_O_count_64 : decode b_O_count 64 = .ok (.iload 9, 2) := by decide +kernel
theorem d_O_count_66 : decode b_O_count 66 = .ok (.iload 4, 2) := by decide +kernel
theorem d_O_count_68 : decode b_O_count 68 = .ok (.if_icmp .gt 92, 3) := by decide +kernel
theorem d_O_count_71 : decode b_O_count 71 = .ok (.aload_n 0, 1) := by decide +kernel
theorem d_O_count_72 : decode b_O_count 72 = .ok (.getfield 9, 3) := by decide +kernel
theorem d_O_count_75 : decode b_O_count 75 = .ok (.ifCond .ne 85, 3) := by decide +kernel
theorem d_O_count_78 : decode b_O_count 78 = .ok (.aload_n 1, 1) := by decide +kernel
theorem d_O_count_79 : decode b_O_count 79 = .ok (.getfield 35, 3) := by decide +kernel
theorem d_O_count_82 : decode b_O_count 82 = .ok (.iload 9, 2) := by decide +kernel
theorem d_O_count_84 : decode b_O_count 84 = .ok (.iaload, 1) := by decide +kernel
theorem d_O_count_85 : decode b_O_count 85 = .ok (.istore 10, 2) := by decide +kernel
theorem d_O_count_87 : decode b_O_count 87 = .ok (.aload_n 0, 1) := by decide +kernel
theorem d_O_count_88 : decode b_O_count 88 = .ok (.dup, 1) := by decide +kernel
theorem d_O_count_89 : decode b_O_count 89 = .ok (.getfield 29, 3) := by decide +kernel
theorem d_O_count_92 : decode b_O_count 92 = .ok (.aload_n 0, 1) := by decide +kernel
theorem d_O_count_93 : decode b_O_count 93 = .ok (.getfield 15, 3) := by decide +kernel
theorem d_O_count_96 : decode b_O_count 96 = .ok (.iload 5, 2) := by decide +kernel
theorem d_O_count_98 : decode b_O_count 98 = .ok (.iload 10, 2) := by decide +kernel
theorem d_O_count_100 : decode b_O_count 100 = .ok (.isub, 1) := by decide +kernel
theorem d_O_count_101 : decode b_O_count 101 = .ok (.i2l, 1) := by decide +kernel
theorem d_O_count_102 : decode b_O_count 102 = .ok (.iload_n 2, 1) := by decide +kernel
theorem d_O_count_103 : decode b_O_count 103 = .ok (.invokestatic 25, 3) := by decide +kernel
theorem d_O_count_106 : decode b_O_count 106 = .ok (.lsub, 1) := by decide +kernel
theorem d_O_count_107 : decode b_O_count 107 = .ok (.ladd, 1) := by decide +kernel
theorem d_O_count_108 : decode b_O_count 108 = .ok (.putfield 29, 3) := by decide +kernel
theorem d_O_count_111 : decode b_O_count 111 = .ok (.iload 6, 2) := by decide +kernel
theorem d_O_count_113 : decode b_O_count 113 = .ok (.iload 10, 2) := by decide +kernel
theorem d_O_count_115 : decode b_O_count 115 = .ok (.iadd, 1) := by decide +kernel
theorem d_O_count_116 : decode b_O_count 116 = .ok (.istore 6, 2) := by decide +kernel
theorem d_O_count_118 : decode b_O_count 118 = .ok (.iload 6, 2) := by decide +kernel
theorem d_O_count_120 : decode b_O_count 120 = .ok (.i2l, 1) := by decide +kernel
theorem d_O_count_121 : decode b_O_count 121 = .ok (.iload_n 2, 1) := by decide +kernel
theorem d_O_count_122 : decode b_O_count 122 = .ok (.invokestatic 25, 3) := by decide +kernel
theorem d_O_count_125 : decode b_O_count 125 = .ok (.lstore 11, 2) := by decide +kernel
theorem d_O_count_127 : decode b_O_count 127 = .ok (.aload_n 0, 1) := by decide +kernel
theorem d_O_count_128 : decode b_O_count 128 = .ok (.dup, 1) := by decide +kernel
theorem d_O_count_129 : decode b_O_count 129 = .ok (.getfield 32, 3) := by decide +kernel
theorem d_O_count_132 : decode b_O_count 132 = .ok (.aload_n 1, 1) := by decide +kernel
theorem d_O_count_133 : decode b_O_count 133 = .ok (.getfield 39, 3) := by decide +kernel
theorem d_O_count_136 : decode b_O_count 136 = .ok (.iload 9, 2) := by decide +kernel
theorem d_O_count_138 : decode b_O_count 138 = .ok (.iaload, 1) := by decide +kernel
theorem d_O_count_139 : decode b_O_count 139 = .ok (.i2l, 1) := by decide +kernel
theorem d_O_count_140 : decode b_O_count 140 = .ok (.lload 11, 2) := by decide +kernel
theorem d_O_count_142 : decode b_O_count 142 = .ok (.lload 7, 2) := by decide +kernel
theorem d_O_count_144 : decode b_O_count 144 = .ok (.lsub, 1) := by decide +kernel
theorem d_O_count_145 : decode b_O_count 145 = .ok (.lmul, 1) := by decide +kernel
theorem d_O_count_146 : decode b_O_count 146 = .ok (.ladd, 1) := by decide +kernel
theorem d_O_count_147 : decode b_O_count 147 = .ok (.putfield 32, 3) := by decide +kernel
theorem d_O_count_150 : decode b_O_count 150 = .ok (.lload 11, 2) := by decide +kernel
theorem d_O_count_152 : decode b_O_count 152 = .ok (.lstore 7, 2) := by decide +kernel
theorem d_O_count_154 : decode b_O_count 154 = .ok (.iinc 9 1, 3) := by decide +kernel
theorem d_O_count_157 : decode b_O_count 157 = .ok (.goto (-93), 3) := by decide +kernel
theorem d_O_count_160 : decode b_O_count 160 = .ok (.return_, 1) := by decide +kernel
theorem d_O_tripAbove_0 : decode b_O_tripAbove 0 = .ok (.aload_n 0, 1) := by decide +kernel
theorem d_O_tripAbove_1 : decode b_O_tripAbove 1 = .ok (.getfield 9, 3) := by decide +kernel
theorem d_O_tripAbove_4 : decode b_O_tripAbove 4 = .ok (.ifCond .eq 5, 3) := by decide +kernel
theorem d_O_tripAbove_7 : decode b_O_tripAbove 7 = .ok (.lconst 0, 1) := by decide +kernel
theorem d_O_tripAbove_8 : decode b_O_tripAbove 8 = .ok (.lreturn, 1) := by decide +kernel
theorem d_O_tripAbove_9 : decode b_O_tripAbove 9 = .ok (.aload_n 1, 1) := by decide +kernel
theorem d_O_tripAbove_10 : decode b_O_tripAbove 10 = .ok (.getfield 42, 3) := by decide +kernel
theorem d_O_tripAbove_13 : decode b_O_tripAbove 13 = .ok (.i2l, 1) := by decide +kernel
theorem d_O_tripAbove_14 : decode b_O_tripAbove 14 = .ok (.aload_n 0, 1) := by decide +kernel
theorem d_O_tripAbove_15 : decode b_O_tripAbove 15 = .ok (.getfield 29, 3) := by decide +kernel
theorem d_O_tripAbove_18 : decode b_O_tripAbove 18 = .ok (.aload_n 0, 1) := by decide +kernel
theorem d_O_tripAbove_19 : decode b_O_tripAbove 19 = .ok (.getfield 15, 3) := by decide +kernel
theorem d_O_tripAbove_22 : decode b_O_tripAbove 22 = .ok (.ladd, 1) := by decide +kernel
theorem d_O_tripAbove_23 : decode b_O_tripAbove 23 = .ok (.lmul, 1) := by decide +kernel
theorem d_O_tripAbove_24 : decode b_O_tripAbove 24 = .ok (.lstore_n 2, 1) := by decide +kernel
theorem d_O_tripAbove_25 : decode b_O_tripAbove 25 = .ok (.ldc2_w 48, 3) := by decide +kernel
theorem d_O_tripAbove_28 : decode b_O_tripAbove 28 = .ok (.aload_n 1, 1) := by decide +kernel
theorem d_O_tripAbove_29 : decode b_O_tripAbove 29 = .ok (.getfield 50, 3) := by decide +kernel
theorem d_O_tripAbove_32 : decode b_O_tripAbove 32 = .ok (.i2l, 1) := by decide +kernel
theorem d_O_tripAbove_33 : decode b_O_tripAbove 33 = .ok (.lmul, 1) := by decide +kernel
theorem d_O_tripAbove_34 : decode b_O_tripAbove 34 = .ok (.aload_n 1, 1) := by decide +kernel
theorem d_O_tripAbove_35 : decode b_O_tripAbove 35 = .ok (.getfield 53, 3) := by decide +kernel
theorem d_O_tripAbove_38 : decode b_O_tripAbove 38 = .ok (.i2l, 1) := by decide +kernel
theorem d_O_tripAbove_39 : decode b_O_tripAbove 39 = .ok (.lmul, 1) := by decide +kernel
theorem d_O_tripAbove_40 : decode b_O_tripAbove 40 = .ok (.aload_n 0, 1) := by decide +kernel
theorem d_O_tripAbove_41 : decode b_O_tripAbove 41 = .ok (.getfield 15, 3) := by decide +kernel
theorem d_O_tripAbove_44 : decode b_O_tripAbove 44 = .ok (.lmul, 1) := by decide +kernel
theorem d_O_tripAbove_45 : decode b_O_tripAbove 45 = .ok (.lstore 4, 2) := by decide +kernel
theorem d_O_tripAbove_47 : decode b_O_tripAbove 47 = .ok (.ldc2_w 48, 3) := by decide +kernel
theorem d_O_tripAbove_50 : decode b_O_tripAbove 50 = .ok (.aload_n 0, 1) := by decide +kernel
theorem d_O_tripAbove_51 : decode b_O_tripAbove 51 = .ok (.getfield 32, 3) := by decide +kernel
theorem d_O_tripAbove_54 : decode b_O_tripAbove 54 = .ok (.lmul, 1) := by decide +kernel
theorem d_O_tripAbove_55 : decode b_O_tripAbove 55 = .ok (.aload_n 1, 1) := by decide +kernel
theorem d_O_tripAbove_56 : decode b_O_tripAbove 56 = .ok (.getfield 56, 3) := by decide +kernel
theorem d_O_tripAbove_59 : decode b_O_tripAbove 59 = .ok (.i2l, 1) := by decide +kernel
theorem d_O_tripAbove_60 : decode b_O_tripAbove 60 = .ok (.lload_n 2, 1) := by decide +kernel
theorem d_O_tripAbove_61 : decode b_O_tripAbove 61 = .ok (.lload 4, 2) := by decide +kernel
theorem d_O_tripAbove_63 : decode b_O_tripAbove 63 = .ok (.ladd, 1) := by decide +kernel
theorem d_O_tripAbove_64 : decode b_O_tripAbove 64 = .ok (.lmul, 1) := by decide +kernel
theorem d_O_tripAbove_65 : decode b_O_tripAbove 65 = .ok (.ladd, 1) := by decide +kernel
theorem d_O_tripAbove_66 : decode b_O_tripAbove 66 = .ok (.lreturn, 1) := by decide +kernel
theorem d_O_tripBelow_0 : decode b_O_tripBelow 0 = .ok (.aload_n 1, 1) := by decide +kernel
theorem d_O_tripBelow_1 : decode b_O_tripBelow 1 = .ok (.getfield 56, 3) := by decide +kernel
theorem d_O_tripBelow_4 : decode b_O_tripBelow 4 = .ok (.i2l, 1) := by decide +kernel
theorem d_O_tripBelow_5 : decode b_O_tripBelow 5 = .ok (.aload_n 0, 1) := by decide +kernel
theorem d_O_tripBelow_6 : decode b_O_tripBelow 6 = .ok (.getfield 15, 3) := by decide +kernel
theorem d_O_tripBelow_9 : decode b_O_tripBelow 9 = .ok (.lmul, 1) := by decide +kernel
theorem d_O_tripBelow_10 : decode b_O_tripBelow 10 = .ok (.lreturn, 1) := by decide +kernel
theorem d_O_carriedBy_0 : decode b_O_carriedBy 0 = .ok (.aload_n 0, 1) := by decide +kernel
theorem d_O_carriedBy_1 : decode b_O_carriedBy 1 = .ok (.aload_n 2, 1) := by decide +kernel
theorem d_O_carriedBy_2 : decode b_O_carriedBy 2 = .ok (.invokevirtual 59, 3) := by decide +kernel
theorem d_O_carriedBy_5 : decode b_O_carriedBy 5 = .ok (.lstore_n 3, 1) := by decide +kernel
theorem d_O_carriedBy_6 : decode b_O_carriedBy 6 = .ok (.lload_n 3, 1) := by decide +kernel
theorem d_O_carriedBy_7 : decode b_O_carriedBy 7 = .ok (.lconst 0, 1) := by decide +kernel
theorem d_O_carriedBy_8 : decode b_O_carriedBy 8 = .ok (.lcmp, 1) := by decide +kernel
theorem d_O_carriedBy_9 : decode b_O_carriedBy 9 = .ok (.ifCond .ne 7, 3) := by decide +kernel
theorem d_O_carriedBy_12 : decode b_O_carriedBy 12 = .ok (.lconst 0, 1) := by decide +kernel
theorem d_O_carriedBy_13 : decode b_O_carriedBy 13 = .ok (.goto 23, 3) := by decide +kernel
theorem d_O_carriedBy_16 : decode b_O_carriedBy 16 = .ok (.ldc2_w 63, 3) := by decide +kernel
theorem d_O_carriedBy_19 : decode b_O_carriedBy 19 = .ok (.iload_n 1, 1) := by decide +kernel
theorem d_O_carriedBy_20 : decode b_O_carriedBy 20 = .ok (.i2l, 1) := by decide +kernel
theorem d_O_carriedBy_21 : decode b_O_carriedBy 21 = .ok (.lmul, 1) := by decide +kernel
theorem d_O_carriedBy_22 : decode b_O_carriedBy 22 = .ok (.aload_n 2, 1) := by decide +kernel
theorem d_O_carriedBy_23 : decode b_O_carriedBy 23 = .ok (.getfield 50, 3) := by decide +kernel
theorem d_O_carriedBy_26 : decode b_O_carriedBy 26 = .ok (.i2l, 1) := by decide +kernel
theorem d_O_carriedBy_27 : decode b_O_carriedBy 27 = .ok (.lmul, 1) := by decide +kernel
theorem d_O_carriedBy_28 : decode b_O_carriedBy 28 = .ok (.aload_n 0, 1) := by decide +kernel
theorem d_O_carriedBy_29 : decode b_O_carriedBy 29 = .ok (.aload_n 2, 1) := by decide +kernel
theorem d_O_carriedBy_30 : decode b_O_carriedBy 30 = .ok (.invokevirtual 65, 3) := by decide +kernel
theorem d_O_carriedBy_33 : decode b_O_carriedBy 33 = .ok (.lmul, 1) := by decide +kernel
theorem d_O_carriedBy_34 : decode b_O_carriedBy 34 = .ok (.lload_n 3, 1) := by decide +kernel
theorem d_O_carriedBy_35 : decode b_O_carriedBy 35 = .ok (.ldiv, 1) := by decide +kernel
theorem d_O_carriedBy_36 : decode b_O_carriedBy 36 = .ok (.lreturn, 1) := by decide +kernel
theorem d_O_power_0 : decode b_O_power 0 = .ok (.lconst 1, 1) := by decide +kernel
theorem d_O_power_1 : decode b_O_power 1 = .ok (.lstore_n 3, 1) := by decide +kernel
theorem d_O_power_2 : decode b_O_power 2 = .ok (.iconst 0, 1) := by decide +kernel
theorem d_O_power_3 : decode b_O_power 3 = .ok (.istore 5, 2) := by decide +kernel
theorem d_O_power_5 : decode b_O_power 5 = .ok (.iload 5, 2) := by decide +kernel
theorem d_O_power_7 : decode b_O_power 7 = .ok (.iload_n 2, 1) := by decide +kernel
theorem d_O_power_8 : decode b_O_power 8 = .ok (.if_icmp .ge 13, 3) := by decide +kernel
theorem d_O_power_11 : decode b_O_power 11 = .ok (.lload_n 3, 1) := by decide +kernel
theorem d_O_power_12 : decode b_O_power 12 = .ok (.lload_n 0, 1) := by decide +kernel
theorem d_O_power_13 : decode b_O_power 13 = .ok (.lmul, 1) := by decide +kernel
theorem d_O_power_14 : decode b_O_power 14 = .ok (.lstore_n 3, 1) := by decide +kernel
theorem d_O_power_15 : decode b_O_power 15 = .ok (.iinc 5 1, 3) := by decide +kernel
theorem d_O_power_18 : decode b_O_power 18 = .ok (.goto (-13), 3) := by decide +kernel
theorem d_O_power_21 : decode b_O_power 21 = .ok (.lload_n 3, 1) := by decide +kernel
theorem d_O_power_22 : decode b_O_power 22 = .ok (.lreturn, 1) := by decide +kernel
theorem d_S_init_0 : decode b_S_init 0 = .ok (.aload_n 0, 1) := by decide +kernel
theorem d_S_init_1 : decode b_S_init 1 = .ok (.invokespecial 3, 3) := by decide +kernel
theorem d_S_init_4 : decode b_S_init 4 = .ok (.aload_n 0, 1) := by decide +kernel
theorem d_S_init_5 : decode b_S_init 5 = .ok (.sipush 169, 3) := by decide +kernel
theorem d_S_init_8 : decode b_S_init 8 = .ok (.newarray .long, 2) := by decide +kernel
theorem d_S_init_10 : decode b_S_init 10 = .ok (.putfield 11, 3) := by decide +kernel
theorem d_S_init_13 : decode b_S_init 13 = .ok (.aload_n 0, 1) := by decide +kernel
theorem d_S_init_14 : decode b_S_init 14 = .ok (.sipush 169, 3) := by decide +kernel
theorem d_S_init_17 : decode b_S_init 17 = .ok (.newarray .long, 2) := by decide +kernel
theorem d_S_init_19 : decode b_S_init 19 = .ok (.putfield 15, 3) := by decide +kernel
theorem d_S_init_22 : decode b_S_init 22 = .ok (.aload_n 0, 1) := by decide +kernel
theorem d_S_init_23 : decode b_S_init 23 = .ok (.iconst 4, 1) := by decide +kernel
theorem d_S_init_24 : decode b_S_init 24 = .ok (.newarray .int, 2) := by decide +kernel
theorem d_S_init_26 : decode b_S_init 26 = .ok (.putfield 18, 3) := by decide +kernel
theorem d_S_init_29 : decode b_S_init 29 = .ok (.aload_n 0, 1) := by decide +kernel
theorem d_S_init_30 : decode b_S_init 30 = .ok (.iconst 4, 1) := by decide +kernel
theorem d_S_init_31 : decode b_S_init 31 = .ok (.newarray .int, 2) := by decide +kernel
theorem d_S_init_33 : decode b_S_init 33 = .ok (.putfield 22, 3) := by decide +kernel
theorem d_S_init_36 : decode b_S_init 36 = .ok (.aload_n 0, 1) := by decide +kernel
theorem d_S_init_37 : decode b_S_init 37 = .ok (.iconst 0, 1) := by decide +kernel
theorem d_S_init_38 : decode b_S_init 38 = .ok (.putfield 25, 3) := by decide +kernel
theorem d_S_init_41 : decode b_S_init 41 = .ok (.aload_n 0, 1) := by decide +kernel
theorem d_S_init_42 : decode b_S_init 42 = .ok (.getfield 15, 3) := by decide +kernel
theorem d_S_init_45 : decode b_S_init 45 = .ok (.iconst 0, 1) := by decide +kernel
theorem d_S_init_46 : decode b_S_init 46 = .ok (.lconst 1, 1) := by decide +kernel
theorem d_S_init_47 : decode b_S_init 47 = .ok (.lastore, 1) := by decide +kernel
theorem d_S_init_48 : decode b_S_init 48 = .ok (.return_, 1) := by decide +kernel
theorem d_S_measureZones_0 : decode b_S_measureZones 0 = .ok (.iconst 1, 1) := by decide +kernel
theorem d_S_measureZones_1 : decode b_S_measureZones 1 = .ok (.istore 4, 2) := by decide +kernel
theorem d_S_measureZones_3 : decode b_S_measureZones 3 = .ok (.iload 4, 2) := by decide +kernel
theorem d_S_measureZones_5 : decode b_S_measureZones 5 = .ok (.aload_n 1, 1) := by decide +kernel
theorem d_S_measureZones_6 : decode b_S_measureZones 6 = .ok (.getfield 29, 3) := by decide +kernel
theorem d_S_measureZones_9 : decode b_S_measureZones 9 = .ok (.if_icmp .gt 75, 3) := by decide +kernel
theorem d_S_measureZones_12 : decode b_S_measureZones 12 = .ok (.iload 4, 2) := by decide +kernel
theorem d_S_measureZones_14 : decode b_S_measureZones 14 = .ok (.istore 5, 2) := by decide +kernel
theorem d_S_measureZones_16 : decode b_S_measureZones 16 = .ok (.iload 5, 2) := by decide +kernel
theorem d_S_measureZones_18 : decode b_S_measureZones 18 = .ok (.aload_n 1, 1) := by decide +kernel
theorem d_S_measureZones_19 : decode b_S_measureZones 19 = .ok (.getfield 29, 3) := by decide +kernel
theorem d_S_measureZones_22 : decode b_S_measureZones 22 = .ok (.if_icmp .gt 56, 3) := by decide +kernel
theorem d_S_measureZones_25 : decode b_S_measureZones 25 = .ok (.aload_n 3, 1) := by decide +kernel
theorem d_S_measureZones_26 : decode b_S_measureZones 26 = .ok (.aload_n 1, 1) := by decide +kernel
theorem d_S_measureZones_27 : decode b_S_measureZones 27 = .ok (.aload_n 2, 1) := by decide +kernel
theorem d_S_measureZones_28 : decode b_S_measureZones 28 = .ok (.getfield 34, 3) := by decide +kernel
theorem d_S_measureZones_31 : decode b_S_measureZones 31 = .ok (.iload 4, 2) := by decide +kernel
theorem d_S_measureZones_33 : decode b_S_measureZones 33 = .ok (.iload 5, 2) := by decide +kernel
theorem d_S_measureZones_35 : decode b_S_measureZones 35 = .ok (.invokevirtual 39, 3) := by decide +kernel
theorem d_S_measureZones_38 : decode b_S_measureZones 38 = .ok (.aload_n 0, 1) := by decide +kernel
theorem d_S_measureZones_39 : decode b_S_measureZones 39 = .ok (.getfield 11, 3) := by decide +kernel
theorem d_S_measureZones_42 : decode b_S_measureZones 42 = .ok (.iload 4, 2) := by decide +kernel
theorem d_S_measureZones_44 : decode b_S_measureZones 44 = .ok (.iload 5, 2) := by decide +kernel
theorem d_S_measureZones_46 : decode b_S_measureZones 46 = .ok (.invokestatic 45, 3) := by decide +kernel
theorem d_S_measureZones_49 : decode b_S_measureZones 49 = .ok (.aload_n 3, 1) := by decide +kernel
theorem d_S_measureZones_50 : decode b_S_measureZones 50 = .ok (.aload_n 2, 1) := by decide +kernel
theorem d_S_measureZones_51 : decode b_S_measureZones 51 = .ok (.invokevirtual 49, 3) := by decide +kernel
theorem d_S_measureZones_54 : decode b_S_measureZones 54 = .ok (.lastore, 1) := by decide +kernel
theorem d_S_measureZones_55 : decode b_S_measureZones 55 = .ok (.aload_n 0, 1) := by decide +kernel
theorem d_S_measureZones_56 : decode b_S_measureZones 56 = .ok (.getfield 15, 3) := by decide +kernel
theorem d_S_measureZones_59 : decode b_S_measureZones 59 = .ok (.iload 4, 2) := by decide +kernel
theorem d_S_measureZones_61 : decode b_S_measureZones 61 = .ok (.iload 5, 2) := by decide +kernel
theorem d_S_measureZones_63 : decode b_S_measureZones 63 = .ok (.invokestatic 45, 3) := by decide +kernel
theorem d_S_measureZones_66 : decode b_S_measureZones 66 = .ok (.aload_n 3, 1) := by decide +kernel
theorem d_S_measureZones_67 : decode b_S_measureZones 67 = .ok (.aload_n 2, 1) := by decide +kernel
theorem d_S_measureZones_68 : decode b_S_measureZones 68 = .ok (.invokevirtual 53, 3) := by decide +kernel
theorem d_S_measureZones_71 : decode b_S_measureZones 71 = .ok (.lastore, 1) := by decide +kernel
theorem d_S_measureZones_72 : decode b_S_measureZones 72 = .ok (.iinc 5 1, 3) := by decide +kernel
theorem d_S_measureZones_75 : decode b_S_measureZones 75 = .ok (.goto (-59), 3) := by decide +kernel
theorem d_S_measureZones_78 : decode b_S_measureZones 78 = .ok (.iinc 4 1, 3) := by decide +kernel
theorem d_S_measureZones_81 : decode b_S_measureZones 81 = .ok (.goto (-78), 3) := by decide +kernel
theorem d_S_measureZones_84 : decode b_S_measureZones 84 = .ok (.return_, 1) := by decide +kernel
theorem d_S_findBest_0 : decode b_S_findBest 0 = .ok (.aload_n 0, 1) := by decide +kernel
theorem d_S_findBest_1 : decode b_S_findBest 1 = .ok (.iload_n 1, 1) := by decide +kernel
theorem d_S_findBest_2 : decode b_S_findBest 2 = .ok (.putfield 56, 3) := by decide +kernel
theorem d_S_findBest_5 : decode b_S_findBest 5 = .ok (.aload_n 0, 1) := by decide +kernel
theorem d_S_findBest_6 : decode b_S_findBest 6 = .ok (.iload_n 2, 1) := by decide +kernel
theorem d_S_findBest_7 : decode b_S_findBest 7 = .ok (.putfield 57, 3) := by decide +kernel
theorem d_S_findBest_10 : decode b_S_findBest 10 = .ok (.aload_n 0, 1) := by decide +kernel
theorem d_S_findBest_11 : decode b_S_findBest 11 = .ok (.iconst 0, 1) := by decide +kernel
theorem d_S_findBest_12 : decode b_S_findBest 12 = .ok (.putfield 25, 3) := by decide +kernel
theorem d_S_findBest_15 : decode b_S_findBest 15 = .ok (.aload_n 0, 1) := by decide +kernel
theorem d_S_findBest_16 : decode b_S_findBest 16 = .ok (.iconst 0, 1) := by decide +kernel
theorem d_S_findBest_17 : decode b_S_findBest 17 = .ok (.iconst 1, 1) := by decide +kernel
theorem d_S_findBest_18 : decode b_S_findBest 18 = .ok (.iconst 0, 1) := by decide +kernel
theorem d_S_findBest_19 : decode b_S_findBest 19 = .ok (.invokevirtual 60, 3) := by decide +kernel
theorem d_S_findBest_22 : decode b_S_findBest 22 = .ok (.return_, 1) := by decide +kernel
theorem d_S_tryZonesFrom_0 : decode b_S_tryZonesFrom 0 = .ok (.iload_n 1, 1) := by decide +kernel
theorem d_S_tryZonesFrom_1 : decode b_S_tryZonesFrom 1 = .ok (.aload_n 0, 1) := by decide +kernel
theorem d_S_tryZonesFrom_2 : decode b_S_tryZonesFrom 2 = .ok (.getfield 57, 3) := by decide +kernel
theorem d_S_tryZonesFrom_5 : decode b_S_tryZonesFrom 5 = .ok (.iconst 1, 1) := by decide +kernel
theorem d_S_tryZonesFrom_6 : decode b_S_tryZonesFrom 6 = .ok (.isub, 1) := by decide +kernel
theorem d_S_tryZonesFrom_7 : decode b_S_tryZonesFrom 7 = .ok (.if_icmp .lt 31, 3) := by decide +kernel
theorem d_S_tryZonesFrom_10 : decode b_S_tryZonesFrom 10 = .ok (.aload_n 0, 1) := by decide +kernel
theorem d_S_tryZonesFrom_11 : decode b_S_tryZonesFrom 11 = .ok (.getfield 18, 3) := by decide +kernel
theorem d_S_tryZonesFrom_14 : decode b_S_tryZonesFrom 14 = .ok (.iload_n 1, 1) := by decide +kernel
theorem d_S_tryZonesFrom_15 : decode b_S_tryZonesFrom 15 = .ok (.aload_n 0, 1) := by decide +kernel
theorem d_S_tryZonesFrom_16 : decode b_S_tryZonesFrom 16 = .ok (.getfield 56, 3) := by decide +kernel
theorem d_S_tryZonesFrom_19 : decode b_S_tryZonesFrom 19 = .ok (.iastore, 1) := by decide +kernel
theorem d_S_tryZonesFrom_20 : decode b_S_tryZonesFrom 20 = .ok (.aload_n 0, 1) := by decide +kernel
theorem d_S_tryZonesFrom_21 : decode b_S_tryZonesFrom 21 = .ok (.aload_n 0, 1) := by decide +kernel
theorem d_S_tryZonesFrom_22 : decode b_S_tryZonesFrom 22 = .ok (.iload_n 3, 1) := by decide +kernel
theorem d_S_tryZonesFrom_23 : decode b_S_tryZonesFrom 23 = .ok (.iload_n 2, 1) := by decide +kernel
theorem d_S_tryZonesFrom_24 : decode b_S_tryZonesFrom 24 = .ok (.aload_n 0, 1) := by decide +kernel
theorem d_S_tryZonesFrom_25 : decode b_S_tryZonesFrom 25 = .ok (.getfield 56, 3) := by decide +kernel
theorem d_S_tryZonesFrom_28 : decode b_S_tryZonesFrom 28 = .ok (.invokestatic 45, 3) := by decide +kernel
theorem d_S_tryZonesFrom_31 : decode b_S_tryZonesFrom 31 = .ok (.invokevirtual 64, 3) := by decide +kernel
theorem d_S_tryZonesFrom_34 : decode b_S_tryZonesFrom 34 = .ok (.invokevirtual 67, 3) := by decide +kernel
theorem d_S_tryZonesFrom_37 : decode b_S_tryZonesFrom 37 = .ok (.return_, 1) := by decide +kernel
theorem d_S_tryZonesFrom_38 : decode b_S_tryZonesFrom 38 = .ok (.aload_n 0, 1) := by decide +kernel
theorem d_S_tryZonesFrom_39 : decode b_S_tryZonesFrom 39 = .ok (.getfield 57, 3) := by decide +kernel
theorem d_S_tryZonesFrom_42 : decode b_S_tryZonesFrom 42 = .ok (.iconst 1, 1) := by decide +kernel
theorem d_S_tryZonesFrom_43 : decode b_S_tryZonesFrom 43 = .ok (.isub, 1) := by decide +kernel
theorem d_S_tryZonesFrom_44 : decode b_S_tryZonesFrom 44 = .ok (.iload_n 1, 1) := by decide +kernel
theorem d_S_tryZonesFrom_45 : decode b_S_tryZonesFrom 45 = .ok (.isub, 1) := by decide +kernel
theorem d_S_tryZonesFrom_46 : decode b_S_tryZonesFrom 46 = .ok (.istore 4, 2) := by decide +kernel
theorem d_S_tryZonesFrom_48 : decode b_S_tryZonesFrom 48 = .ok (.iload_n 2, 1) := by decide +kernel
theorem d_S_tryZonesFrom_49 : decode b_S_tryZonesFrom 49 = .ok (.istore 5, 2) := by decide +kernel
theorem d_S_tryZonesFrom_51 : decode b_S_tryZonesFrom 51 = .ok (.iload 5, 2) := by decide +kernel
theorem d_S_tryZonesFrom_53 : decode b_S_tryZonesFrom 53 = .ok (.aload_n 0, 1) := by decide +kernel
theorem d_S_tryZonesFrom_54 : decode b_S_tryZonesFrom 54 = .ok (.getfield 56, 3) := by decide +kernel
theorem d_S_tryZonesFrom_57 : decode b_S_tryZonesFrom 57 = .ok (.iload 4, 2) := by decide +kernel
theorem d_S_tryZonesFrom_59 : decode b_S_tryZonesFrom 59 = .ok (.isub, 1) := by decide +kernel
theorem d_S_tryZonesFrom_60 : decode b_S_tryZonesFrom 60 = .ok (.if_icmp .gt 39, 3) := by decide +kernel
theorem d_S_tryZonesFrom_63 : decode b_S_tryZonesFrom 63 = .ok (.aload_n 0, 1) := by decide +kernel
theorem d_S_tryZonesFrom_64 : decode b_S_tryZonesFrom 64 = .ok (.getfield 18, 3) := by decide +kernel
theorem d_S_tryZonesFrom_67 : decode b_S_tryZonesFrom 67 = .ok (.iload_n 1, 1) := by decide +kernel
theorem d_S_tryZonesFrom_68 : decode b_S_tryZonesFrom 68 = .ok (.iload 5, 2) := by decide +kernel
theorem d_S_tryZonesFrom_70 : decode b_S_tryZonesFrom 70 = .ok (.iastore, 1) := by decide +kernel
theorem d_S_tryZonesFrom_71 : decode b_S_tryZonesFrom 71 = .ok (.aload_n 0, 1) := by decide +kernel
theorem d_S_tryZonesFrom_72 : decode b_S_tryZonesFrom 72 = .ok (.iload_n 1, 1) := by decide +kernel
theorem d_S_tryZonesFrom_73 : decode b_S_tryZonesFrom 73 = .ok (.iconst 1, 1) := by decide +kernel
theorem d_S_tryZonesFrom_74 : decode b_S_tryZonesFrom 74 = .ok (.iadd, 1) := by decide +kernel
theorem d_S_tryZonesFrom_75 : decode b_S_tryZonesFrom 75 = .ok (.iload 5, 2) := by decide +kernel
theorem d_S_tryZonesFrom_77 : decode b_S_tryZonesFrom 77 = .ok (.iconst 1, 1) := by decide +kernel
theorem d_S_tryZonesFrom_78 : decode b_S_tryZonesFrom 78 = .ok (.iadd, 1) := by decide +kernel
theorem d_S_tryZonesFrom_79 : decode b_S_tryZonesFrom 79 = .ok (.aload_n 0, 1) := by decide +kernel
theorem d_S_tryZonesFrom_80 : decode b_S_tryZonesFrom 80 = .ok (.iload_n 3, 1) := by decide +kernel
theorem d_S_tryZonesFrom_81 : decode b_S_tryZonesFrom 81 = .ok (.iload_n 2, 1) := by decide +kernel
theorem d_S_tryZonesFrom_82 : decode b_S_tryZonesFrom 82 = .ok (.iload 5, 2) := by decide +kernel
theorem d_S_tryZonesFrom_84 : decode b_S_tryZonesFrom 84 = .ok (.invokestatic 45, 3) := by decide +kernel
theorem d_S_tryZonesFrom_87 : decode b_S_tryZonesFrom 87 = .ok (.invokevirtual 64, 3) := by decide +kernel
theorem d_S_tryZonesFrom_90 : decode b_S_tryZonesFrom 90 = .ok (.invokevirtual 60, 3) := by decide +kernel
theorem d_S_tryZonesFrom_93 : decode b_S_tryZonesFrom 93 = .ok (.iinc 5 1, 3) := by decide +kernel
theorem d_S_tryZonesFrom_96 : decode b_S_tryZonesFrom 96 = .ok (.goto (-45), 3) := by decide +kernel
theorem d_S_tryZonesFrom_99 : decode b_S_tryZonesFrom 99 = .ok (.return_, 1) := by decide +kernel
theorem d_S_keepIfBetter_0 : decode b_S_keepIfBetter 0 = .ok (.aload_n 0, 1) := by decide +kernel
theorem d_S_keepIfBetter_1 : decode b_S_keepIfBetter 1 = .ok (.getfield 25, 3) := by decide +kernel
theorem d_S_keepIfBetter_4 : decode b_S_keepIfBetter 4 = .ok (.ifCond .eq 15, 3) := by decide +kernel
theorem d_S_keepIfBetter_7 : decode b_S_keepIfBetter 7 = .ok (.aload_n 0, 1) := by decide +kernel
theorem d_S_keepIfBetter_8 : decode b_S_keepIfBetter 8 = .ok (.iload_n 1, 1) := by decide +kernel
theorem d_S_keepIfBetter_9 : decode b_S_keepIfBetter 9 = .ok (.aload_n 0, 1) := by decide +kernel
theorem d_S_keepIfBetter_10 : decode b_S_keepIfBetter 10 = .ok (.getfield 25, 3) := by decide +kernel
theorem d_S_keepIfBetter_13 : decode b_S_keepIfBetter 13 = .ok (.invokevirtual 71, 3) := by decide +kernel
theorem d_S_keepIfBetter_16 : decode b_S_keepIfBetter 16 = .ok (.ifCond .ge 25, 3) := by decide +kernel
theorem d_S_keepIfBetter_19 : decode b_S_keepIfBetter 19 = .ok (.aload_n 0, 1) := by decide +kernel
theorem d_S_keepIfBetter_20 : decode b_S_keepIfBetter 20 = .ok (.iload_n 1, 1) := by decide +kernel
theorem d_S_keepIfBetter_21 : decode b_S_keepIfBetter 21 = .ok (.putfield 25, 3) := by decide +kernel
theorem d_S_keepIfBetter_24 : decode b_S_keepIfBetter 24 = .ok (.aload_n 0, 1) := by decide +kernel
theorem d_S_keepIfBetter_25 : decode b_S_keepIfBetter 25 = .ok (.getfield 18, 3) := by decide +kernel
theorem d_S_keepIfBetter_28 : decode b_S_keepIfBetter 28 = .ok (.iconst 0, 1) := by decide +kernel
theorem d_S_keepIfBetter_29 : decode b_S_keepIfBetter 29 = .ok (.aload_n 0, 1) := by decide +kernel
theorem d_S_keepIfBetter_30 : decode b_S_keepIfBetter 30 = .ok (.getfield 22, 3) := by decide +kernel
theorem d_S_keepIfBetter_33 : decode b_S_keepIfBetter 33 = .ok (.iconst 0, 1) := by decide +kernel
theorem d_S_keepIfBetter_34 : decode b_S_keepIfBetter 34 = .ok (.aload_n 0, 1) := by decide +kernel
theorem d_S_keepIfBetter_35 : decode b_S_keepIfBetter 35 = .ok (.getfield 57, 3) := by decide +kernel
theorem d_S_keepIfBetter_38 : decode b_S_keepIfBetter 38 = .ok (.invokestatic 74, 3) := by decide +kernel
theorem d_S_keepIfBetter_41 : decode b_S_keepIfBetter 41 = .ok (.return_, 1) := by decide +kernel
theorem d_S_longer_0 : decode b_S_longer 0 = .ok (.aload_n 0, 1) := by decide +kernel
theorem d_S_longer_1 : decode b_S_longer 1 = .ok (.iload_n 1, 1) := by decide +kernel
theorem d_S_longer_2 : decode b_S_longer 2 = .ok (.iload_n 2, 1) := by decide +kernel
theorem d_S_longer_3 : decode b_S_longer 3 = .ok (.invokevirtual 71, 3) := by decide +kernel
theorem d_S_longer_6 : decode b_S_longer 6 = .ok (.ifCond .le 7, 3) := by decide +kernel
theorem d_S_longer_9 : decode b_S_longer 9 = .ok (.iload_n 1, 1) := by decide +kernel
theorem d_S_longer_10 : decode b_S_longer 10 = .ok (.goto 4, 3) := by decide +kernel
theorem d_S_longer_13 : decode b_S_longer 13 = .ok (.iload_n 2, 1) := by decide +kernel
theorem d_S_longer_14 : decode b_S_longer 14 = .ok (.ireturn, 1) := by decide +kernel
theorem d_S_order_0 : decode b_S_order 0 = .ok (.aload_n 0, 1) := by decide +kernel
theorem d_S_order_1 : decode b_S_order 1 = .ok (.getfield 11, 3) := by decide +kernel
theorem d_S_order_4 : decode b_S_order 4 = .ok (.iload_n 1, 1) := by decide +kernel
theorem d_S_order_5 : decode b_S_order 5 = .ok (.laload, 1) := by decide +kernel
theorem d_S_order_6 : decode b_S_order 6 = .ok (.aload_n 0, 1) := by decide +kernel
theorem d_S_order_7 : decode b_S_order 7 = .ok (.getfield 15, 3) := by decide +kernel
theorem d_S_order_10 : decode b_S_order 10 = .ok (.iload_n 1, 1) := by decide +kernel
theorem d_S_order_11 : decode b_S_order 11 = .ok (.laload, 1) := by decide +kernel
theorem d_S_order_12 : decode b_S_order 12 = .ok (.aload_n 0, 1) := by decide +kernel
theorem d_S_order_13 : decode b_S_order 13 = .ok (.getfield 11, 3) := by decide +kernel
theorem d_S_order_16 : decode b_S_order 16 = .ok (.iload_n 2, 1) := by decide +kernel
theorem d_S_order_17 : decode b_S_order 17 = .ok (.laload, 1) := by decide +kernel
theorem d_S_order_18 : decode b_S_order 18 = .ok (.aload_n 0, 1) := by decide +kernel
theorem d_S_order_19 : decode b_S_order 19 = .ok (.getfield 15, 3) := by decide +kernel
theorem d_S_order_22 : decode b_S_order 22 = .ok (.iload_n 2, 1) := by decide +kernel
theorem d_S_order_23 : decode b_S_order 23 = .ok (.laload, 1) := by decide +kernel
theorem d_S_order_24 : decode b_S_order 24 = .ok (.invokestatic 80, 3) := by decide +kernel
theorem d_S_order_27 : decode b_S_order 27 = .ok (.ireturn, 1) := by decide +kernel
theorem d_S_zone_0 : decode b_S_zone 0 = .ok (.iload_n 0, 1) := by decide +kernel
theorem d_S_zone_1 : decode b_S_zone 1 = .ok (.bipush 13, 2) := by decide +kernel
theorem d_S_zone_3 : decode b_S_zone 3 = .ok (.imul, 1) := by decide +kernel
theorem d_S_zone_4 : decode b_S_zone 4 = .ok (.iload_n 1, 1) := by decide +kernel
theorem d_S_zone_5 : decode b_S_zone 5 = .ok (.iadd, 1) := by decide +kernel
theorem d_S_zone_6 : decode b_S_zone 6 = .ok (.ireturn, 1) := by decide +kernel
theorem d_A_init_0 : decode b_A_init 0 = .ok (.aload_n 0, 1) := by decide +kernel
theorem d_A_init_1 : decode b_A_init 1 = .ok (.invokespecial 3, 3) := by decide +kernel
theorem d_A_init_4 : decode b_A_init 4 = .ok (.aload_n 0, 1) := by decide +kernel
theorem d_A_init_5 : decode b_A_init 5 = .ok (.bipush 13, 2) := by decide +kernel
theorem d_A_init_7 : decode b_A_init 7 = .ok (.newarray .int, 2) := by decide +kernel
theorem d_A_init_9 : decode b_A_init 9 = .ok (.putfield 9, 3) := by decide +kernel
theorem d_A_init_12 : decode b_A_init 12 = .ok (.return_, 1) := by decide +kernel
theorem d_A_begin_0 : decode b_A_begin 0 = .ok (.aload_n 1, 1) := by decide +kernel
theorem d_A_begin_1 : decode b_A_begin 1 = .ok (.getfield 15, 3) := by decide +kernel
theorem d_A_begin_4 : decode b_A_begin 4 = .ok (.iconst 0, 1) := by decide +kernel
theorem d_A_begin_5 : decode b_A_begin 5 = .ok (.aload_n 0, 1) := by decide +kernel
theorem d_A_begin_6 : decode b_A_begin 6 = .ok (.getfield 9, 3) := by decide +kernel
theorem d_A_begin_9 : decode b_A_begin 9 = .ok (.iconst 0, 1) := by decide +kernel
theorem d_A_begin_10 : decode b_A_begin 10 = .ok (.bipush 13, 2) := by decide +kernel
theorem d_A_begin_12 : decode b_A_begin 12 = .ok (.invokestatic 20, 3) := by decide +kernel
theorem d_A_begin_15 : decode b_A_begin 15 = .ok (.aload_n 0, 1) := by decide +kernel
theorem d_A_begin_16 : decode b_A_begin 16 = .ok (.aload_n 1, 1) := by decide +kernel
theorem d_A_begin_17 : decode b_A_begin 17 = .ok (.getfield 26, 3) := by decide +kernel
theorem d_A_begin_20 : decode b_A_begin 20 = .ok (.putfield 30, 3) := by decide +kernel
theorem d_A_begin_23 : decode b_A_begin 23 = .ok (.return_, 1) := by decide +kernel
theorem d_A_oneSecond_0 : decode b_A_oneSecond 0 = .ok (.aload_n 0, 1) := by decide +kernel
theorem d_A_oneSecond_1 : decode b_A_oneSecond 1 = .ok (.getfield 9, 3) := by decide +kernel
theorem d_A_oneSecond_4 : decode b_A_oneSecond 4 = .ok (.iconst 0, 1) := by decide +kernel
theorem d_A_oneSecond_5 : decode b_A_oneSecond 5 = .ok (.iaload, 1) := by decide +kernel
theorem d_A_oneSecond_6 : decode b_A_oneSecond 6 = .ok (.istore_n 3, 1) := by decide +kernel
theorem d_A_oneSecond_7 : decode b_A_oneSecond 7 = .ok (.iconst 1, 1) := by decide +kernel
theorem d_A_oneSecond_8 : decode b_A_oneSecond 8 = .ok (.istore 4, 2) := by decide +kernel
theorem d_A_oneSecond_10 : decode b_A_oneSecond 10 = .ok (.iload 4, 2) := by decide +kernel
theorem d_A_oneSecond_12 : decode b_A_oneSecond 12 = .ok (.iload_n 1, 1) := by decide +kernel
theorem d_A_oneSecond_13 : decode b_A_oneSecond 13 = .ok (.if_icmp .gt 48, 3) := by decide +kernel
theorem d_A_oneSecond_16 : decode b_A_oneSecond 16 = .ok (.aload_n 0, 1) := by decide +kernel
theorem d_A_oneSecond_17 : decode b_A_oneSecond 17 = .ok (.getfield 9, 3) := by decide +kernel
theorem d_A_oneSecond_20 : decode b_A_oneSecond 20 = .ok (.iload 4, 2) := by decide +kernel
theorem d_A_oneSecond_22 : decode b_A_oneSecond 22 = .ok (.iaload, 1) := by decide +kernel
theorem d_A_oneSecond_23 : decode b_A_oneSecond 23 = .ok (.iload_n 2, 1) := by decide +kernel
theorem d_A_oneSecond_24 : decode b_A_oneSecond 24 = .ok (.invokestatic 33, 3) := by decide +kernel
theorem d_A_oneSecond_27 : decode b_A_oneSecond 27 = .ok (.istore 5, 2) := by decide +kernel
theorem d_A_oneSecond_29 : decode b_A_oneSecond 29 = .ok (.aload_n 0, 1) := by decide +kernel
theorem d_A_oneSecond_30 : decode b_A_oneSecond 30 = .ok (.getfield 9, 3) := by decide +kernel
theorem d_A_oneSecond_33 : decode b_A_oneSecond 33 = .ok (.iload 4, 2) := by decide +kernel
theorem d_A_oneSecond_35 : decode b_A_oneSecond 35 = .ok (.dup2, 1) := by decide +kernel
theorem d_A_oneSecond_36 : decode b_A_oneSecond 36 = .ok (.iaload, 1) := by decide +kernel
theorem d_A_oneSecond_37 : decode b_A_oneSecond 37 = .ok (.iload 5, 2) := by decide +kernel
theorem d_A_oneSecond_39 : decode b_A_oneSecond 39 = .ok (.isub, 1) := by decide +kernel
theorem d_A_oneSecond_40 : decode b_A_oneSecond 40 = .ok (.iastore, 1) := by decide +kernel
theorem d_A_oneSecond_41 : decode b_A_oneSecond 41 = .ok (.aload_n 0, 1) := by decide +kernel
theorem d_A_oneSecond_42 : decode b_A_oneSecond 42 = .ok (.getfield 9, 3) := by decide +kernel
theorem d_A_oneSecond_45 : decode b_A_oneSecond 45 = .ok (.iload 4, 2) := by decide +kernel
theorem d_A_oneSecond_47 : decode b_A_oneSecond 47 = .ok (.iconst 1, 1) := by decide +kernel
theorem d_A_oneSecond_48 : decode b_A_oneSecond 48 = .ok (.isub, 1) := by decide +kernel
theorem d_A_oneSecond_49 : decode b_A_oneSecond 49 = .ok (.dup2, 1) := by decide +kernel
theorem d_A_oneSecond_50 : decode b_A_oneSecond 50 = .ok (.iaload, 1) := by decide +kernel
theorem d_A_oneSecond_51 : decode b_A_oneSecond 51 = .ok (.iload 5, 2) := by decide +kernel
theorem d_A_oneSecond_53 : decode b_A_oneSecond 53 = .ok (.iadd, 1) := by decide +kernel
theorem d_A_oneSecond_54 : decode b_A_oneSecond 54 = .ok (.iastore, 1) := by decide +kernel
theorem d_A_oneSecond_55 : decode b_A_oneSecond 55 = .ok (.iinc 4 1, 3) := by decide +kernel
theorem d_A_oneSecond_58 : decode b_A_oneSecond 58 = .ok (.goto (-48), 3) := by decide +kernel
theorem d_A_oneSecond_61 : decode b_A_oneSecond 61 = .ok (.aload_n 0, 1) := by decide +kernel
theorem d_A_oneSecond_62 : decode b_A_oneSecond 62 = .ok (.dup, 1) := by decide +kernel
theorem d_A_oneSecond_63 : decode b_A_oneSecond 63 = .ok (.getfield 30, 3) := by decide +kernel
theorem d_A_oneSecond_66 : decode b_A_oneSecond 66 = .ok (.aload_n 0, 1) := by decide +kernel
theorem d_A_oneSecond_67 : decode b_A_oneSecond 67 = .ok (.getfield 9, 3) := by decide +kernel
theorem d_A_oneSecond_70 : decode b_A_oneSecond 70 = .ok (.iconst 0, 1) := by decide +kernel
theorem d_A_oneSecond_71 : decode b_A_oneSecond 71 = .ok (.iaload, 1) := by decide +kernel
theorem d_A_oneSecond_72 : decode b_A_oneSecond 72 = .ok (.iload_n 3, 1) := by decide +kernel
theorem d_A_oneSecond_73 : decode b_A_oneSecond 73 = .ok (.isub, 1) := by decide +kernel
theorem d_A_oneSecond_74 : decode b_A_oneSecond 74 = .ok (.isub, 1) := by decide +kernel
theorem d_A_oneSecond_75 : decode b_A_oneSecond 75 = .ok (.putfield 30, 3) := by decide +kernel
theorem d_A_oneSecond_78 : decode b_A_oneSecond 78 = .ok (.return_, 1) := by decide +kernel
