theorem d_M_init_0 : decode b_M_init 0 = .ok (.aload_n 0, 1) := by decide +kernel
theorem d_M_init_1 : decode b_M_init 1 = .ok (.invokespecial 1, 3) := by decide +kernel
theorem d_M_init_4 : decode b_M_init 4 = .ok (.aload_n 0, 1) := by decide +kernel
theorem d_M_init_5 : decode b_M_init 5 = .ok (.bipush 13, 2) := by decide +kernel
theorem d_M_init_7 : decode b_M_init 7 = .ok (.newarray .int, 2) := by decide +kernel
theorem d_M_init_9 : decode b_M_init 9 = .ok (.putfield 7, 3) := by decide +kernel
theorem d_M_init_12 : decode b_M_init 12 = .ok (.aload_n 0, 1) := by decide +kernel
theorem d_M_init_13 : decode b_M_init 13 = .ok (.bipush 13, 2) := by decide +kernel
theorem d_M_init_15 : decode b_M_init 15 = .ok (.newarray .int, 2) := by decide +kernel
theorem d_M_init_17 : decode b_M_init 17 = .ok (.putfield 13, 3) := by decide +kernel
theorem d_M_init_20 : decode b_M_init 20 = .ok (.aload_n 0, 1) := by decide +kernel
theorem d_M_init_21 : decode b_M_init 21 = .ok (.bipush 6, 2) := by decide +kernel
theorem d_M_init_23 : decode b_M_init 23 = .ok (.newarray .int, 2) := by decide +kernel
theorem d_M_init_25 : decode b_M_init 25 = .ok (.putfield 16, 3) := by decide +kernel
theorem d_M_init_28 : decode b_M_init 28 = .ok (.aload_n 0, 1) := by decide +kernel
theorem d_M_init_29 : decode b_M_init 29 = .ok (.bipush 6, 2) := by decide +kernel
theorem d_M_init_31 : decode b_M_init 31 = .ok (.newarray .int, 2) := by decide +kernel
theorem d_M_init_33 : decode b_M_init 33 = .ok (.putfield 19, 3) := by decide +kernel
theorem d_M_init_36 : decode b_M_init 36 = .ok (.aload_n 0, 1) := by decide +kernel
theorem d_M_init_37 : decode b_M_init 37 = .ok (.bipush 6, 2) := by decide +kernel
theorem d_M_init_39 : decode b_M_init 39 = .ok (.newarray .int, 2) := by decide +kernel
theorem d_M_init_41 : decode b_M_init 41 = .ok (.putfield 22, 3) := by decide +kernel
theorem d_M_init_44 : decode b_M_init 44 = .ok (.aload_n 0, 1) := by decide +kernel
theorem d_M_init_45 : decode b_M_init 45 = .ok (.bipush 6, 2) := by decide +kernel
theorem d_M_init_47 : decode b_M_init 47 = .ok (.newarray .int, 2) := by decide +kernel
theorem d_M_init_49 : decode b_M_init 49 = .ok (.putfield 25, 3) := by decide +kernel
theorem d_M_init_52 : decode b_M_init 52 = .ok (.aload_n 0, 1) := by decide +kernel
theorem d_M_init_53 : decode b_M_init 53 = .ok (.bipush 6, 2) := by decide +kernel
theorem d_M_init_55 : decode b_M_init 55 = .ok (.newarray .int, 2) := by decide +kernel
theorem d_M_init_57 : decode b_M_init 57 = .ok (.putfield 28, 3) := by decide +kernel
theorem d_M_init_60 : decode b_M_init 60 = .ok (.aload_n 0, 1) := by decide +kernel
theorem d_M_init_61 : decode b_M_init 61 = .ok (.sipush 169, 3) := by decide +kernel
theorem d_M_init_64 : decode b_M_init 64 = .ok (.newarray .long, 2) := by decide +kernel
theorem d_M_init_66 : decode b_M_init 66 = .ok (.putfield 31, 3) := by decide +kernel
theorem d_M_init_69 : decode b_M_init 69 = .ok (.aload_n 0, 1) := by decide +kernel
theorem d_M_init_70 : decode b_M_init 70 = .ok (.sipush 169, 3) := by decide +kernel
theorem d_M_init_73 : decode b_M_init 73 = .ok (.newarray .long, 2) := by decide +kernel
theorem d_M_init_75 : decode b_M_init 75 = .ok (.putfield 35, 3) := by decide +kernel
theorem d_M_init_78 : decode b_M_init 78 = .ok (.aload_n 0, 1) := by decide +kernel
theorem d_M_init_79 : decode b_M_init 79 = .ok (.iconst 4, 1) := by decide +kernel
theorem d_M_init_80 : decode b_M_init 80 = .ok (.newarray .int, 2) := by decide +kernel
theorem d_M_init_82 : decode b_M_init 82 = .ok (.putfield 38, 3) := by decide +kernel
theorem d_M_init_85 : decode b_M_init 85 = .ok (.aload_n 0, 1) := by decide +kernel
theorem d_M_init_86 : decode b_M_init 86 = .ok (.iconst 4, 1) := by decide +kernel
theorem d_M_init_87 : decode b_M_init 87 = .ok (.newarray .int, 2) := by decide +kernel
theorem d_M_init_89 : decode b_M_init 89 = .ok (.putfield 41, 3) := by decide +kernel
theorem d_M_init_92 : decode b_M_init 92 = .ok (.aload_n 0, 1) := by decide +kernel
theorem d_M_init_93 : decode b_M_init 93 = .ok (.bipush 13, 2) := by decide +kernel
theorem d_M_init_95 : decode b_M_init 95 = .ok (.newarray .int, 2) := by decide +kernel
theorem d_M_init_97 : decode b_M_init 97 = .ok (.putfield 44, 3) := by decide +kernel
theorem d_M_init_100 : decode b_M_init 100 = .ok (.return_, 1) := by decide +kernel
theorem d_M_thrown_0 : decode b_M_thrown 0 = .ok (.aload_n 0, 1) := by decide +kernel
theorem d_M_thrown_1 : decode b_M_thrown 1 = .ok (.getfield 47, 3) := by decide +kernel
theorem d_M_thrown_4 : decode b_M_thrown 4 = .ok (.ireturn, 1) := by decide +kernel
theorem d_M_isIn_0 : decode b_M_isIn 0 = .ok (.iload_n 0, 1) := by decide +kernel
theorem d_M_isIn_1 : decode b_M_isIn 1 = .ok (.iload_n 1, 1) := by decide +kernel
theorem d_M_isIn_2 : decode b_M_isIn 2 = .ok (.if_icmp .lt 12, 3) := by decide +kernel
theorem d_M_isIn_5 : decode b_M_isIn 5 = .ok (.iload_n 0, 1) := by decide +kernel
theorem d_M_isIn_6 : decode b_M_isIn 6 = .ok (.iload_n 2, 1) := by decide +kernel
theorem d_M_isIn_7 : decode b_M_isIn 7 = .ok (.if_icmp .gt 7, 3) := by decide +kernel
theorem d_M_isIn_10 : decode b_M_isIn 10 = .ok (.iconst 1, 1) := by decide +kernel
theorem d_M_isIn_11 : decode b_M_isIn 11 = .ok (.goto 4, 3) := by decide +kernel
theorem d_M_isIn_14 : decode b_M_isIn 14 = .ok (.iconst 0, 1) := by decide +kernel
theorem d_M_isIn_15 : decode b_M_isIn 15 = .ok (.ireturn, 1) := by decide +kernel
theorem d_M_allPersons_0 : decode b_M_allPersons 0 = .ok (.iconst 0, 1) := by decide +kernel
theorem d_M_allPersons_1 : decode b_M_allPersons 1 = .ok (.istore_n 1, 1) := by decide +kernel
theorem d_M_allPersons_2 : decode b_M_allPersons 2 = .ok (.iconst 1, 1) := by decide +kernel
theorem d_M_allPersons_3 : decode b_M_allPersons 3 = .ok (.istore_n 2, 1) := by decide +kernel
theorem d_M_allPersons_4 : decode b_M_allPersons 4 = .ok (.iload_n 2, 1) := by decide +kernel
theorem d_M_allPersons_5 : decode b_M_allPersons 5 = .ok (.aload_n 0, 1) := by decide +kernel
theorem d_M_allPersons_6 : decode b_M_allPersons 6 = .ok (.getfield 51, 3) := by decide +kernel
theorem d_M_allPersons_9 : decode b_M_allPersons 9 = .ok (.if_icmp .gt 18, 3) := by decide +kernel
theorem d_M_allPersons_12 : decode b_M_allPersons 12 = .ok (.iload_n 1, 1) := by decide +kernel
theorem d_M_allPersons_13 : decode b_M_allPersons 13 = .ok (.aload_n 0, 1) := by decide +kernel
theorem d_M_allPersons_14 : decode b_M_allPersons 14 = .ok (.getfield 7, 3) := by decide +kernel
theorem d_M_allPersons_17 : decode b_M_allPersons 17 = .ok (.iload_n 2, 1) := by decide +kernel
theorem d_M_allPersons_18 : decode b_M_allPersons 18 = .ok (.iaload, 1) := by decide +kernel
theorem d_M_allPersons_19 : decode b_M_allPersons 19 = .ok (.iadd, 1) := by decide +kernel
theorem d_M_allPersons_20 : decode b_M_allPersons 20 = .ok (.istore_n 1, 1) := by decide +kernel
theorem d_M_allPersons_21 : decode b_M_allPersons 21 = .ok (.iinc 2 1, 3) := by decide +kernel
theorem d_M_allPersons_24 : decode b_M_allPersons 24 = .ok (.goto (-20), 3) := by decide +kernel
theorem d_M_allPersons_27 : decode b_M_allPersons 27 = .ok (.iload_n 1, 1) := by decide +kernel
theorem d_M_allPersons_28 : decode b_M_allPersons 28 = .ok (.ireturn, 1) := by decide +kernel
theorem d_M_floor_0 : decode b_M_floor 0 = .ok (.aload_n 0, 1) := by decide +kernel
theorem d_M_floor_1 : decode b_M_floor 1 = .ok (.iload_n 1, 1) := by decide +kernel
theorem d_M_floor_2 : decode b_M_floor 2 = .ok (.iconst 0, 1) := by decide +kernel
theorem d_M_floor_3 : decode b_M_floor 3 = .ok (.sipush 200, 3) := by decide +kernel
theorem d_M_floor_6 : decode b_M_floor 6 = .ok (.invokestatic 54, 3) := by decide +kernel
theorem d_M_floor_9 : decode b_M_floor 9 = .ok (.ifCond .eq 14, 3) := by decide +kernel
theorem d_M_floor_12 : decode b_M_floor 12 = .ok (.iload_n 2, 1) := by decide +kernel
theorem d_M_floor_13 : decode b_M_floor 13 = .ok (.bipush 10, 2) := by decide +kernel
theorem d_M_floor_15 : decode b_M_floor 15 = .ok (.bipush 100, 2) := by decide +kernel
theorem d_M_floor_17 : decode b_M_floor 17 = .ok (.invokestatic 54, 3) := by decide +kernel
theorem d_M_floor_20 : decode b_M_floor 20 = .ok (.ifCond .ne 7, 3) := by decide +kernel
theorem d_M_floor_23 : decode b_M_floor 23 = .ok (.iconst 1, 1) := by decide +kernel
theorem d_M_floor_24 : decode b_M_floor 24 = .ok (.goto 29, 3) := by decide +kernel
theorem d_M_floor_27 : decode b_M_floor 27 = .ok (.aload_n 0, 1) := by decide +kernel
theorem d_M_floor_28 : decode b_M_floor 28 = .ok (.getfield 51, 3) := by decide +kernel
theorem d_M_floor_31 : decode b_M_floor 31 = .ok (.bipush 12, 2) := by decide +kernel
theorem d_M_floor_33 : decode b_M_floor 33 = .ok (.if_icmp .eq 15, 3) := by decide +kernel
theorem d_M_floor_36 : decode b_M_floor 36 = .ok (.aload_n 0, 1) := by decide +kernel
theorem d_M_floor_37 : decode b_M_floor 37 = .ok (.invokevirtual 58, 3) := by decide +kernel
theorem d_M_floor_40 : decode b_M_floor 40 = .ok (.iload_n 1, 1) := by decide +kernel
theorem d_M_floor_41 : decode b_M_floor 41 = .ok (.iadd, 1) := by decide +kernel
theorem d_M_floor_42 : decode b_M_floor 42 = .ok (.sipush 200, 3) := by decide +kernel
theorem d_M_floor_45 : decode b_M_floor 45 = .ok (.if_icmp .le 7, 3) := by decide +kernel
theorem d_M_floor_48 : decode b_M_floor 48 = .ok (.iconst 2, 1) := by decide +kernel
theorem d_M_floor_49 : decode b_M_floor 49 = .ok (.goto 4, 3) := by decide +kernel
theorem d_M_floor_52 : decode b_M_floor 52 = .ok (.iconst 0, 1) := by decide +kernel
theorem d_M_floor_53 : decode b_M_floor 53 = .ok (.putfield 47, 3) := by decide +kernel
theorem d_M_floor_56 : decode b_M_floor 56 = .ok (.aload_n 0, 1) := by decide +kernel
theorem d_M_floor_57 : decode b_M_floor 57 = .ok (.getfield 47, 3) := by decide +kernel
theorem d_M_floor_60 : decode b_M_floor 60 = .ok (.ifCond .le 5, 3) := by decide +kernel
theorem d_M_floor_63 : decode b_M_floor 63 = .ok (.iconst 0, 1) := by decide +kernel
theorem d_M_floor_64 : decode b_M_floor 64 = .ok (.ireturn, 1) := by decide +kernel
theorem d_M_floor_65 : decode b_M_floor 65 = .ok (.aload_n 0, 1) := by decide +kernel
theorem d_M_floor_66 : decode b_M_floor 66 = .ok (.dup, 1) := by decide +kernel
theorem d_M_floor_67 : decode b_M_floor 67 = .ok (.getfield 51, 3) := by decide +kernel
theorem d_M_floor_70 : decode b_M_floor 70 = .ok (.iconst 1, 1) := by decide +kernel
theorem d_M_floor_71 : decode b_M_floor 71 = .ok (.iadd, 1) := by decide +kernel
theorem d_M_floor_72 : decode b_M_floor 72 = .ok (.putfield 51, 3) := by decide +kernel
theorem d_M_floor_75 : decode b_M_floor 75 = .ok (.aload_n 0, 1) := by decide +kernel
theorem d_M_floor_76 : decode b_M_floor 76 = .ok (.getfield 7, 3) := by decide +kernel
theorem d_M_floor_79 : decode b_M_floor 79 = .ok (.aload_n 0, 1) := by decide +kernel
theorem d_M_floor_80 : decode b_M_floor 80 = .ok (.getfield 51, 3) := by decide +kernel
theorem d_M_floor_83 : decode b_M_floor 83 = .ok (.iload_n 1, 1) := by decide +kernel
theorem d_M_floor_84 : decode b_M_floor 84 = .ok (.iastore, 1) := by decide +kernel
theorem d_M_floor_85 : decode b_M_floor 85 = .ok (.aload_n 0, 1) := by decide +kernel
theorem d_M_floor_86 : decode b_M_floor 86 = .ok (.getfield 13, 3) := by decide +kernel
theorem d_M_floor_89 : decode b_M_floor 89 = .ok (.aload_n 0, 1) := by decide +kernel
theorem d_M_floor_90 : decode b_M_floor 90 = .ok (.getfield 51, 3) := by decide +kernel
theorem d_M_floor_93 : decode b_M_floor 93 = .ok (.aload_n 0, 1) := by decide +kernel
theorem d_M_floor_94 : decode b_M_floor 94 = .ok (.getfield 13, 3) := by decide +kernel
theorem d_M_floor_97 : decode b_M_floor 97 = .ok (.aload_n 0, 1) := by decide +kernel
theorem d_M_floor_98 : decode b_M_floor 98 = .ok (.getfield 51, 3) := by decide +kernel
theorem d_M_floor_101 : decode b_M_floor 101 = .ok (.iconst 1, 1) := by decide +kernel
theorem d_M_floor_102 : decode b_M_floor 102 = .ok (.isub, 1) := by decide +kernel
theorem d_M_floor_103 : decode b_M_floor 103 = .ok (.iaload, 1) := by decide +kernel
theorem d_M_floor_104 : decode b_M_floor 104 = .ok (.iload_n 2, 1) := by decide +kernel
theorem d_M_floor_105 : decode b_M_floor 105 = .ok (.iadd, 1) := by decide +kernel
theorem d_M_floor_106 : decode b_M_floor 106 = .ok (.iastore, 1) := by decide +kernel
theorem d_M_floor_107 : decode b_M_floor 107 = .ok (.aload_n 0, 1) := by decide +kernel
theorem d_M_floor_108 : decode b_M_floor 108 = .ok (.getfield 51, 3) := by decide +kernel
theorem d_M_floor_111 : decode b_M_floor 111 = .ok (.ireturn, 1) := by decide +kernel
theorem d_M_noFloor_0 : decode b_M_noFloor 0 = .ok (.iload_n 1, 1) := by decide +kernel
theorem d_M_noFloor_1 : decode b_M_noFloor 1 = .ok (.iconst 1, 1) := by decide +kernel
theorem d_M_noFloor_2 : decode b_M_noFloor 2 = .ok (.aload_n 0, 1) := by decide +kernel
theorem d_M_noFloor_3 : decode b_M_noFloor 3 = .ok (.getfield 51, 3) := by decide +kernel
theorem d_M_noFloor_6 : decode b_M_noFloor 6 = .ok (.invokestatic 54, 3) := by decide +kernel
theorem d_M_noFloor_9 : decode b_M_noFloor 9 = .ok (.ifCond .ne 7, 3) := by decide +kernel
theorem d_M_noFloor_12 : decode b_M_noFloor 12 = .ok (.iconst 1, 1) := by decide +kernel
theorem d_M_noFloor_13 : decode b_M_noFloor 13 = .ok (.goto 4, 3) := by decide +kernel
theorem d_M_noFloor_16 : decode b_M_noFloor 16 = .ok (.iconst 0, 1) := by decide +kernel
theorem d_M_noFloor_17 : decode b_M_noFloor 17 = .ok (.ireturn, 1) := by decide +kernel
theorem d_M_persons_0 : decode b_M_persons 0 = .ok (.aload_n 0, 1) := by decide +kernel
theorem d_M_persons_1 : decode b_M_persons 1 = .ok (.aload_n 0, 1) := by decide +kernel
theorem d_M_persons_2 : decode b_M_persons 2 = .ok (.iload_n 1, 1) := by decide +kernel
theorem d_M_persons_3 : decode b_M_persons 3 = .ok (.invokevirtual 62, 3) := by decide +kernel
theorem d_M_persons_6 : decode b_M_persons 6 = .ok (.ifCond .ne 14, 3) := by decide +kernel
theorem d_M_persons_9 : decode b_M_persons 9 = .ok (.iload_n 2, 1) := by decide +kernel
theorem d_M_persons_10 : decode b_M_persons 10 = .ok (.iconst 0, 1) := by decide +kernel
theorem d_M_persons_11 : decode b_M_persons 11 = .ok (.sipush 200, 3) := by decide +kernel
theorem d_M_persons_14 : decode b_M_persons 14 = .ok (.invokestatic 54, 3) := by decide +kernel
theorem d_M_persons_17 : decode b_M_persons 17 = .ok (.ifCond .ne 7, 3) := by decide +kernel
theorem d_M_persons_20 : decode b_M_persons 20 = .ok (.iconst 1, 1) := by decide +kernel
theorem d_M_persons_21 : decode b_M_persons 21 = .ok (.goto 27, 3) := by decide +kernel
theorem d_M_persons_24 : decode b_M_persons 24 = .ok (.aload_n 0, 1) := by decide +kernel
theorem d_M_persons_25 : decode b_M_persons 25 = .ok (.invokevirtual 58, 3) := by decide +kernel
theorem d_M_persons_28 : decode b_M_persons 28 = .ok (.aload_n 0, 1) := by decide +kernel
theorem d_M_persons_29 : decode b_M_persons 29 = .ok (.getfield 7, 3) := by decide +kernel
theorem d_M_persons_32 : decode b_M_persons 32 = .ok (.iload_n 1, 1) := by decide +kernel
theorem d_M_persons_33 : decode b_M_persons 33 = .ok (.iaload, 1) := by decide +kernel
theorem d_M_persons_34 : decode b_M_persons 34 = .ok (.isub, 1) := by decide +kernel
theorem d_M_persons_35 : decode b_M_persons 35 = .ok (.iload_n 2, 1) := by decide +kernel
theorem d_M_persons_36 : decode b_M_persons 36 = .ok (.iadd, 1) := by decide +kernel
theorem d_M_persons_37 : decode b_M_persons 37 = .ok (.sipush 200, 3) := by decide +kernel
theorem d_M_persons_40 : decode b_M_persons 40 = .ok (.if_icmp .le 7, 3) := by decide +kernel
theorem d_M_persons_43 : decode b_M_persons 43 = .ok (.iconst 2, 1) := by decide +kernel
theorem d_M_persons_44 : decode b_M_persons 44 = .ok (.goto 4, 3) := by decide +kernel
theorem d_M_persons_47 : decode b_M_persons 47 = .ok (.iconst 0, 1) := by decide +kernel
theorem d_M_persons_48 : decode b_M_persons 48 = .ok (.putfield 47, 3) := by decide +kernel
theorem d_M_persons_51 : decode b_M_persons 51 = .ok (.aload_n 0, 1) := by decide +kernel
theorem d_M_persons_52 : decode b_M_persons 52 = .ok (.getfield 47, 3) := by decide +kernel
theorem d_M_persons_55 : decode b_M_persons 55 = .ok (.ifCond .le 5, 3) := by decide +kernel
theorem d_M_persons_58 : decode b_M_persons 58 = .ok (.iconst 0, 1) := by decide +kernel
theorem d_M_persons_59 : decode b_M_persons 59 = .ok (.ireturn, 1) := by decide +kernel
theorem d_M_persons_60 : decode b_M_persons 60 = .ok (.aload_n 0, 1) := by decide +kernel
theorem d_M_persons_61 : decode b_M_persons 61 = .ok (.getfield 7, 3) := by decide +kernel
theorem d_M_persons_64 : decode b_M_persons 64 = .ok (.iload_n 1, 1) := by decide +kernel
theorem d_M_persons_65 : decode b_M_persons 65 = .ok (.iaload, 1) := by decide +kernel
theorem d_M_persons_66 : decode b_M_persons 66 = .ok (.istore_n 3, 1) := by decide +kernel
theorem d_M_persons_67 : decode b_M_persons 67 = .ok (.aload_n 0, 1) := by decide +kernel
theorem d_M_persons_68 : decode b_M_persons 68 = .ok (.getfield 7, 3) := by decide +kernel
theorem d_M_persons_71 : decode b_M_persons 71 = .ok (.iload_n 1, 1) := by decide +kernel
theorem d_M_persons_72 : decode b_M_persons 72 = .ok (.iload_n 2, 1) := by decide +kernel
theorem d_M_persons_73 : decode b_M_persons 73 = .ok (.iastore, 1) := by decide +kernel
theorem d_M_persons_74 : decode b_M_persons 74 = .ok (.iload_n 3, 1) := by decide +kernel
theorem d_M_persons_75 : decode b_M_persons 75 = .ok (.ireturn, 1) := by decide +kernel
theorem d_M_type_0 : decode b_M_type 0 = .ok (.iload_n 1, 1) := by decide +kernel
theorem d_M_type_1 : decode b_M_type 1 = .ok (.iconst 1, 1) := by decide +kernel
theorem d_M_type_2 : decode b_M_type 2 = .ok (.iconst 5, 1) := by decide +kernel
theorem d_M_type_3 : decode b_M_type 3 = .ok (.invokestatic 54, 3) := by decide +kernel
theorem d_M_type_6 : decode b_M_type 6 = .ok (.ifCond .eq 49, 3) := by decide +kernel
theorem d_M_type_9 : decode b_M_type 9 = .ok (.iload_n 2, 1) := by decide +kernel
theorem d_M_type_10 : decode b_M_type 10 = .ok (.iconst 1, 1) := by decide +kernel
theorem d_M_type_11 : decode b_M_type 11 = .ok (.bipush 100, 2) := by decide +kernel
theorem d_M_type_13 : decode b_M_type 13 = .ok (.invokestatic 54, 3) := by decide +kernel
theorem d_M_type_16 : decode b_M_type 16 = .ok (.ifCond .eq 39, 3) := by decide +kernel
theorem d_M_type_19 : decode b_M_type 19 = .ok (.iload_n 3, 1) := by decide +kernel
theorem d_M_type_20 : decode b_M_type 20 = .ok (.iconst 0, 1) := by decide +kernel
theorem d_M_type_21 : decode b_M_type 21 = .ok (.bipush 30, 2) := by decide +kernel
theorem d_M_type_23 : decode b_M_type 23 = .ok (.invokestatic 54, 3) := by decide +kernel
theorem d_M_type_26 : decode b_M_type 26 = .ok (.ifCond .eq 29, 3) := by decide +kernel
theorem d_M_type_29 : decode b_M_type 29 = .ok (.iload 4, 2) := by decide +kernel
theorem d_M_type_31 : decode b_M_type 31 = .ok (.iconst 0, 1) := by decide +kernel
theorem d_M_type_32 : decode b_M_type 32 = .ok (.bipush 10, 2) := by decide +kernel
theorem d_M_type_34 : decode b_M_type 34 = .ok (.invokestatic 54, 3) := by decide +kernel
theorem d_M_type_37 : decode b_M_type 37 = .ok (.ifCond .eq 18, 3) := by decide +kernel
theorem d_M_type_40 : decode b_M_type 40 = .ok (.iload 5, 2) := by decide +kernel
theorem d_M_type_42 : decode b_M_type 42 = .ok (.iconst 1, 1) := by decide +kernel
theorem d_M_type_43 : decode b_M_type 43 = .ok (.ldc 66, 2) := by decide +kernel
theorem d_M_type_45 : decode b_M_type 45 = .ok (.invokestatic 54, 3) := by decide +kernel
theorem d_M_type_48 : decode b_M_type 48 = .ok (.ifCond .eq 7, 3) := by decide +kernel
theorem d_M_type_51 : decode b_M_type 51 = .ok (.iconst 1, 1) := by decide +kernel
theorem d_M_type_52 : decode b_M_type 52 = .ok (.goto 4, 3) := by decide +kernel
theorem d_M_type_55 : decode b_M_type 55 = .ok (.iconst 0, 1) := by decide +kernel
theorem d_M_type_56 : decode b_M_type 56 = .ok (.istore 6, 2) := by decide +kernel
theorem d_M_type_58 : decode b_M_type 58 = .ok (.aload_n 0, 1) := by decide +kernel
theorem d_M_type_59 : decode b_M_type 59 = .ok (.iload 6, 2) := by decide +kernel
theorem d_M_type_61 : decode b_M_type 61 = .ok (.ifCond .ne 7, 3) := by decide +kernel
theorem d_M_type_64 : decode b_M_type 64 = .ok (.iconst 1, 1) := by decide +kernel
theorem d_M_type_65 : decode b_M_type 65 = .ok (.goto 17, 3) := by decide +kernel
theorem d_M_type_68 : decode b_M_type 68 = .ok (.aload_n 0, 1) := by decide +kernel
theorem d_M_type_69 : decode b_M_type 69 = .ok (.getfield 67, 3) := by decide +kernel
theorem d_M_type_72 : decode b_M_type 72 = .ok (.bipush 6, 2) := by decide +kernel
theorem d_M_type_74 : decode b_M_type 74 = .ok (.if_icmp .ne 7, 3) := by decide +kernel
theorem d_M_type_77 : decode b_M_type 77 = .ok (.iconst 2, 1) := by decide +kernel
theorem d_M_type_78 : decode b_M_type 78 = .ok (.goto 4, 3) := by decide +kernel
theorem d_M_type_81 : decode b_M_type 81 = .ok (.iconst 0, 1) := by decide +kernel
theorem d_M_type_82 : decode b_M_type 82 = .ok (.putfield 47, 3) := by decide +kernel
theorem d_M_type_85 : decode b_M_type 85 = .ok (.aload_n 0, 1) := by decide +kernel
theorem d_M_type_86 : decode b_M_type 86 = .ok (.getfield 47, 3) := by decide +kernel
theorem d_M_type_89 : decode b_M_type 89 = .ok (.ifCond .le 5, 3) := by decide +kernel
theorem d_M_type_92 : decode b_M_type 92 = .ok (.iconst 0, 1) := by decide +kernel
theorem d_M_type_93 : decode b_M_type 93 = .ok (.ireturn, 1) := by decide +kernel
theorem d_M_type_94 : decode b_M_type 94 = .ok (.aload_n 0, 1) := by decide +kernel
theorem d_M_type_95 : decode b_M_type 95 = .ok (.getfield 16, 3) := by decide +kernel
theorem d_M_type_98 : decode b_M_type 98 = .ok (.aload_n 0, 1) := by decide +kernel
theorem d_M_type_99 : decode b_M_type 99 = .ok (.getfield 67, 3) := by decide +kernel
theorem d_M_type_102 : decode b_M_type 102 = .ok (.iload_n 1, 1) := by decide +kernel
theorem d_M_type_103 : decode b_M_type 103 = .ok (.iastore, 1) := by decide +kernel
theorem d_M_type_104 : decode b_M_type 104 = .ok (.aload_n 0, 1) := by decide +kernel
theorem d_M_type_105 : decode b_M_type 105 = .ok (.getfield 19, 3) := by decide +kernel
theorem d_M_type_108 : decode b_M_type 108 = .ok (.aload_n 0, 1) := by decide +kernel
theorem d_M_type_109 : decode b_M_type 109 = .ok (.getfield 67, 3) := by decide +kernel
theorem d_M_type_112 : decode b_M_type 112 = .ok (.iload_n 2, 1) := by decide +kernel
theorem d_M_type_113 : decode b_M_type 113 = .ok (.iastore, 1) := by decide +kernel
theorem d_M_type_114 : decode b_M_type 114 = .ok (.aload_n 0, 1) := by decide +kernel
theorem d_M_type_115 : decode b_M_type 115 = .ok (.getfield 22, 3) := by decide +kernel
theorem d_M_type_118 : decode b_M_type 118 = .ok (.aload_n 0, 1) := by decide +kernel
theorem d_M_type_119 : decode b_M_type 119 = .ok (.getfield 67, 3) := by decide +kernel
theorem d_M_type_122 : decode b_M_type 122 = .ok (.iload_n 3, 1) := by decide +kernel
theorem d_M_type_123 : decode b_M_type 123 = .ok (.iastore, 1) := by decide +kernel
theorem d_M_type_124 : decode b_M_type 124 = .ok (.aload_n 0, 1) := by decide +kernel
theorem d_M_type_125 : decode b_M_type 125 = .ok (.getfield 25, 3) := by decide +kernel
theorem d_M_type_128 : decode b_M_type 128 = .ok (.aload_n 0, 1) := by decide +kernel
theorem d_M_type_129 : decode b_M_type 129 = .ok (.getfield 67, 3) := by decide +kernel
theorem d_M_type_132 : decode b_M_type 132 = .ok (.iload 4, 2) := by decide +kernel
theorem d_M_type_134 : decode b_M_type 134 = .ok (.iastore, 1) := by decide +kernel
theorem d_M_type_135 : decode b_M_type 135 = .ok (.aload_n 0, 1) := by decide +kernel
theorem d_M_type_136 : decode b_M_type 136 = .ok (.getfield 28, 3) := by decide +kernel
theorem d_M_type_139 : decode b_M_type 139 = .ok (.aload_n 0, 1) := by decide +kernel
theorem d_M_type_140 : decode b_M_type 140 = .ok (.getfield 67, 3) := by decide +kernel
theorem d_M_type_143 : decode b_M_type 143 = .ok (.iload 5, 2) := by decide +kernel
theorem d_M_type_145 : decode b_M_type 145 = .ok (.iastore, 1) := by decide +kernel
theorem d_M_type_146 : decode b_M_type 146 = .ok (.aload_n 0, 1) := by decide +kernel
theorem d_M_type_147 : decode b_M_type 147 = .ok (.dup, 1) := by decide +kernel
theorem d_M_type_148 : decode b_M_type 148 = .ok (.getfield 67, 3) := by decide +kernel
theorem d_M_type_151 : decode b_M_type 151 = .ok (.iconst 1, 1) := by decide +kernel
theorem d_M_type_152 : decode b_M_type 152 = .ok (.iadd, 1) := by decide +kernel
theorem d_M_type_153 : decode b_M_type 153 = .ok (.putfield 67, 3) := by decide +kernel
theorem d_M_type_156 : decode b_M_type 156 = .ok (.aload_n 0, 1) := by decide +kernel
theorem d_M_type_157 : decode b_M_type 157 = .ok (.getfield 67, 3) := by decide +kernel
theorem d_M_type_160 : decode b_M_type 160 = .ok (.iconst 1, 1) := by decide +kernel
theorem d_M_type_161 : decode b_M_type 161 = .ok (.isub, 1) := by decide +kernel
theorem d_M_type_162 : decode b_M_type 162 = .ok (.ireturn, 1) := by decide +kernel
theorem d_M_power_0 : decode b_M_power 0 = .ok (.lconst 1, 1) := by decide +kernel
theorem d_M_power_1 : decode b_M_power 1 = .ok (.lstore_n 3, 1) := by decide +kernel
theorem d_M_power_2 : decode b_M_power 2 = .ok (.iconst 0, 1) := by decide +kernel
theorem d_M_power_3 : decode b_M_power 3 = .ok (.istore 5, 2) := by decide +kernel
theorem d_M_power_5 : decode b_M_power 5 = .ok (.iload 5, 2) := by decide +kernel
theorem d_M_power_7 : decode b_M_power 7 = .ok (.iload_n 2, 1) := by decide +kernel
theorem d_M_power_8 : decode b_M_power 8 = .ok (.if_icmp .ge 13, 3) := by decide +kernel
theorem d_M_power_11 : decode b_M_power 11 = .ok (.lload_n 3, 1) := by decide +kernel
theorem d_M_power_12 : decode b_M_power 12 = .ok (.lload_n 0, 1) := by decide +kernel
theorem d_M_power_13 : decode b_M_power 13 = .ok (.lmul, 1) := by decide +kernel
theorem d_M_power_14 : decode b_M_power 14 = .ok (.lstore_n 3, 1) := by decide +kernel
theorem d_M_power_15 : decode b_M_power 15 = .ok (.iinc 5 1, 3) := by decide +kernel
theorem d_M_power_18 : decode b_M_power 18 = .ok (.goto (-13), 3) := by decide +kernel
theorem d_M_power_21 : decode b_M_power 21 = .ok (.lload_n 3, 1) := by decide +kernel
theorem d_M_power_22 : decode b_M_power 22 = .ok (.lreturn, 1) := by decide +kernel
theorem d_M_zonePersons_0 : decode b_M_zonePersons 0 = .ok (.iconst 0, 1) := by decide +kernel
theorem d_M_zonePersons_1 : decode b_M_zonePersons 1 = .ok (.istore_n 3, 1) := by decide +kernel
theorem d_M_zonePersons_2 : decode b_M_zonePersons 2 = .ok (.iload_n 1, 1) := by decide +kernel
theorem d_M_zonePersons_3 : decode b_M_zonePersons 3 = .ok (.istore 4, 2) := by decide +kernel
theorem d_M_zonePersons_5 : decode b_M_zonePersons 5 = .ok (.iload 4, 2) := by decide +kernel
theorem d_M_zonePersons_7 : decode b_M_zonePersons 7 = .ok (.iload_n 2, 1) := by decide +kernel
theorem d_M_zonePersons_8 : decode b_M_zonePersons 8 = .ok (.if_icmp .gt 19, 3) := by decide +kernel
theorem d_M_zonePersons_11 : decode b_M_zonePersons 11 = .ok (.iload_n 3, 1) := by decide +kernel
theorem d_M_zonePersons_12 : decode b_M_zonePersons 12 = .ok (.aload_n 0, 1) := by decide +kernel
theorem d_M_zonePersons_13 : decode b_M_zonePersons 13 = .ok (.getfield 7, 3) := by decide +kernel
theorem d_M_zonePersons_16 : decode b_M_zonePersons 16 = .ok (.iload 4, 2) := by decide +kernel
theorem d_M_zonePersons_18 : decode b_M_zonePersons 18 = .ok (.iaload, 1) := by decide +kernel
theorem d_M_zonePersons_19 : decode b_M_zonePersons 19 = .ok (.iadd, 1) := by decide +kernel
theorem d_M_zonePersons_20 : decode b_M_zonePersons 20 = .ok (.istore_n 3, 1) := by decide +kernel
theorem d_M_zonePersons_21 : decode b_M_zonePersons 21 = .ok (.iinc 4 1, 3) := by decide +kernel
theorem d_M_zonePersons_24 : decode b_M_zonePersons 24 = .ok (.goto (-19), 3) := by decide +kernel
theorem d_M_zonePersons_27 : decode b_M_zonePersons 27 = .ok (.iload_n 3, 1) := by decide +kernel
theorem d_M_zonePersons_28 : decode b_M_zonePersons 28 = .ok (.ireturn, 1) := by decide +kernel
theorem d_M_stopsOf_0 : decode b_M_stopsOf 0 = .ok (.aload_n 0, 1) := by decide +kernel
theorem d_M_stopsOf_1 : decode b_M_stopsOf 1 = .ok (.iload_n 2, 1) := by decide +kernel
theorem d_M_stopsOf_2 : decode b_M_stopsOf 2 = .ok (.iload_n 3, 1) := by decide +kernel
theorem d_M_stopsOf_3 : decode b_M_stopsOf 3 = .ok (.invokevirtual 70, 3) := by decide +kernel
theorem d_M_stopsOf_6 : decode b_M_stopsOf 6 = .ok (.i2l, 1) := by decide +kernel
theorem d_M_stopsOf_7 : decode b_M_stopsOf 7 = .ok (.lstore 4, 2) := by decide +kernel
theorem d_M_stopsOf_9 : decode b_M_stopsOf 9 = .ok (.lconst 0, 1) := by decide +kernel
theorem d_M_stopsOf_10 : decode b_M_stopsOf 10 = .ok (.lstore 6, 2) := by decide +kernel
theorem d_M_stopsOf_12 : decode b_M_stopsOf 12 = .ok (.iload_n 2, 1) := by decide +kernel
theorem d_M_stopsOf_13 : decode b_M_stopsOf 13 = .ok (.istore 8, 2) := by decide +kernel
theorem d_M_stopsOf_15 : decode b_M_stopsOf 15 = .ok (.iload 8, 2) := by decide +kernel
theorem d_M_stopsOf_17 : decode b_M_stopsOf 17 = .ok (.iload_n 3, 1) := by decide +kernel
theorem d_M_stopsOf_18 : decode b_M_stopsOf 18 = .ok (.if_icmp .gt 36, 3) := by decide +kernel
theorem d_M_stopsOf_21 : decode b_M_stopsOf 21 = .ok (.lload 6, 2) := by decide +kernel
theorem d_M_stopsOf_23 : decode b_M_stopsOf 23 = .ok (.lload 4, 2) := by decide +kernel
theorem d_M_stopsOf_25 : decode b_M_stopsOf 25 = .ok (.iload_n 1, 1) := by decide +kernel
theorem d_M_stopsOf_26 : decode b_M_stopsOf 26 = .ok (.invokestatic 74, 3) := by decide +kernel
theorem d_M_stopsOf_29 : decode b_M_stopsOf 29 = .ok (.ladd, 1) := by decide +kernel
theorem d_M_stopsOf_30 : decode b_M_stopsOf 30 = .ok (.lload 4, 2) := by decide +kernel
theorem d_M_stopsOf_32 : decode b_M_stopsOf 32 = .ok (.aload_n 0, 1) := by decide +kernel
theorem d_M_stopsOf_33 : decode b_M_stopsOf 33 = .ok (.getfield 7, 3) := by decide +kernel
theorem d_M_stopsOf_36 : decode b_M_stopsOf 36 = .ok (.iload 8, 2) := by decide +kernel
theorem d_M_stopsOf_38 : decode b_M_stopsOf 38 = .ok (.iaload, 1) := by decide +kernel
theorem d_M_stopsOf_39 : decode b_M_stopsOf 39 = .ok (.i2l, 1) := by decide +kernel
theorem d_M_stopsOf_40 : decode b_M_stopsOf 40 = .ok (.lsub, 1) := by decide +kernel
theorem d_M_stopsOf_41 : decode b_M_stopsOf 41 = .ok (.iload_n 1, 1) := by decide +kernel
theorem d_M_stopsOf_42 : decode b_M_stopsOf 42 = .ok (.invokestatic 74, 3) := by decide +kernel
theorem d_M_stopsOf_45 : decode b_M_stopsOf 45 = .ok (.lsub, 1) := by decide +kernel
theorem d_M_stopsOf_46 : decode b_M_stopsOf 46 = .ok (.lstore 6, 2) := by decide +kernel
theorem d_M_stopsOf_48 : decode b_M_stopsOf 48 = .ok (.iinc 8 1, 3) := by decide +kernel
theorem d_M_stopsOf_51 : decode b_M_stopsOf 51 = .ok (.goto (-36), 3) := by decide +kernel
theorem d_M_stopsOf_54 : decode b_M_stopsOf 54 = .ok (.lload 6, 2) := by decide +kernel
theorem d_M_stopsOf_56 : decode b_M_stopsOf 56 = .ok (.lreturn, 1) := by decide +kernel
theorem d_M_highestOf_0 : decode b_M_highestOf 0 = .ok (.lconst 0, 1) := by decide +kernel
theorem d_M_highestOf_1 : decode b_M_highestOf 1 = .ok (.lstore 4, 2) := by decide +kernel
theorem d_M_highestOf_3 : decode b_M_highestOf 3 = .ok (.lconst 0, 1) := by decide +kernel
theorem d_M_highestOf_4 : decode b_M_highestOf 4 = .ok (.lstore 6, 2) := by decide +kernel
theorem d_M_highestOf_6 : decode b_M_highestOf 6 = .ok (.iload_n 2, 1) := by decide +kernel
theorem d_M_highestOf_7 : decode b_M_highestOf 7 = .ok (.istore 8, 2) := by decide +kernel
theorem d_M_highestOf_9 : decode b_M_highestOf 9 = .ok (.iload 8, 2) := by decide +kernel
theorem d_M_highestOf_11 : decode b_M_highestOf 11 = .ok (.iload_n 3, 1) := by decide +kernel
theorem d_M_highestOf_12 : decode b_M_highestOf 12 = .ok (.if_icmp .gt 53, 3) := by decide +kernel
theorem d_M_highestOf_15 : decode b_M_highestOf 15 = .ok (.lload 6, 2) := by decide +kernel
theorem d_M_highestOf_17 : decode b_M_highestOf 17 = .ok (.aload_n 0, 1) := by decide +kernel
theorem d_M_highestOf_18 : decode b_M_highestOf 18 = .ok (.getfield 7, 3) := by decide +kernel
theorem d_M_highestOf_21 : decode b_M_highestOf 21 = .ok (.iload 8, 2) := by decide +kernel
theorem d_M_highestOf_23 : decode b_M_highestOf 23 = .ok (.iaload, 1) := by decide +kernel
theorem d_M_highestOf_24 : decode b_M_highestOf 24 = .ok (.i2l, 1) := by decide +kernel
theorem d_M_highestOf_25 : decode b_M_highestOf 25 = .ok (.ladd, 1) := by decide +kernel
theorem d_M_highestOf_26 : decode b_M_highestOf 26 = .ok (.lstore 9, 2) := by decide +kernel
theorem d_M_highestOf_28 : decode b_M_highestOf 28 = .ok (.lload 4, 2) := by decide +kernel
theorem d_M_highestOf_30 : decode b_M_highestOf 30 = .ok (.aload_n 0, 1) := by decide +kernel
theorem d_M_highestOf_31 : decode b_M_highestOf 31 = .ok (.getfield 13, 3) := by decide +kernel
theorem d_M_highestOf_34 : decode b_M_highestOf 34 = .ok (.iload 8, 2) := by decide +kernel
theorem d_M_highestOf_36 : decode b_M_highestOf 36 = .ok (.iaload, 1) := by decide +kernel
theorem d_M_highestOf_37 : decode b_M_highestOf 37 = .ok (.i2l, 1) := by decide +kernel
theorem d_M_highestOf_38 : decode b_M_highestOf 38 = .ok (.lload 9, 2) := by decide +kernel
theorem d_M_highestOf_40 : decode b_M_highestOf 40 = .ok (.iload_n 1, 1) := by decide +kernel
theorem d_M_highestOf_41 : decode b_M_highestOf 41 = .ok (.invokestatic 74, 3) := by decide +kernel
theorem d_M_highestOf_44 : decode b_M_highestOf 44 = .ok (.lload 6, 2) := by decide +kernel
theorem d_M_highestOf_46 : decode b_M_highestOf 46 = .ok (.iload_n 1, 1) := by decide +kernel
theorem d_M_highestOf_47 : decode b_M_highestOf 47 = .ok (.invokestatic 74, 3) := by decide +kernel
theorem d_M_highestOf_50 : decode b_M_highestOf 50 = .ok (.lsub, 1) := by decide +kernel
theorem d_M_highestOf_51 : decode b_M_highestOf 51 = .ok (.lmul, 1) := by decide +kernel
theorem d_M_highestOf_52 : decode b_M_highestOf 52 = .ok (.ladd, 1) := by decide +kernel
theorem d_M_highestOf_53 : decode b_M_highestOf 53 = .ok (.lstore 4, 2) := by decide +kernel
theorem d_M_highestOf_55 : decode b_M_highestOf 55 = .ok (.lload 9, 2) := by decide +kernel
theorem d_M_highestOf_57 : decode b_M_highestOf 57 = .ok (.lstore 6, 2) := by decide +kernel
theorem d_M_highestOf_59 : decode b_M_highestOf 59 = .ok (.iinc 8 1, 3) := by decide +kernel
theorem d_M_highestOf_62 : decode b_M_highestOf 62 = .ok (.goto (-53), 3) := by decide +kernel
theorem d_M_highestOf_65 : decode b_M_highestOf 65 = .ok (.lload 4, 2) := by decide +kernel
theorem d_M_highestOf_67 : decode b_M_highestOf 67 = .ok (.lreturn, 1) := by decide +kernel
theorem d_M_lowest_0 : decode b_M_lowest 0 = .ok (.lload_n 1, 1) := by decide +kernel
theorem d_M_lowest_1 : decode b_M_lowest 1 = .ok (.lstore 5, 2) := by decide +kernel
theorem d_M_lowest_3 : decode b_M_lowest 3 = .ok (.lload_n 3, 1) := by decide +kernel
theorem d_M_lowest_4 : decode b_M_lowest 4 = .ok (.lstore 7, 2) := by decide +kernel
theorem d_M_lowest_6 : decode b_M_lowest 6 = .ok (.lload 7, 2) := by decide +kernel
theorem d_M_lowest_8 : decode b_M_lowest 8 = .ok (.lconst 0, 1) := by decide +kernel
theorem d_M_lowest_9 : decode b_M_lowest 9 = .ok (.lcmp, 1) := by decide +kernel
theorem d_M_lowest_10 : decode b_M_lowest 10 = .ok (.ifCond .eq 21, 3) := by decide +kernel
theorem d_M_lowest_13 : decode b_M_lowest 13 = .ok (.lload 5, 2) := by decide +kernel
theorem d_M_lowest_15 : decode b_M_lowest 15 = .ok (.lload 7, 2) := by decide +kernel
theorem d_M_lowest_17 : decode b_M_lowest 17 = .ok (.lrem, 1) := by decide +kernel
theorem d_M_lowest_18 : decode b_M_lowest 18 = .ok (.lstore 9, 2) := by decide +kernel
theorem d_M_lowest_20 : decode b_M_lowest 20 = .ok (.lload 7, 2) := by decide +kernel
theorem d_M_lowest_22 : decode b_M_lowest 22 = .ok (.lstore 5, 2) := by decide +kernel
theorem d_M_lowest_24 : decode b_M_lowest 24 = .ok (.lload 9, 2) := by decide +kernel
theorem d_M_lowest_26 : decode b_M_lowest 26 = .ok (.lstore 7, 2) := by decide +kernel
theorem d_M_lowest_28 : decode b_M_lowest 28 = .ok (.goto (-22), 3) := by decide +kernel
theorem d_M_lowest_31 : decode b_M_lowest 31 = .ok (.aload_n 0, 1) := by decide +kernel
theorem d_M_lowest_32 : decode b_M_lowest 32 = .ok (.lload_n 1, 1) := by decide +kernel
theorem d_M_lowest_33 : decode b_M_lowest 33 = .ok (.lload 5, 2) := by decide +kernel
theorem d_M_lowest_35 : decode b_M_lowest 35 = .ok (.ldiv, 1) := by decide +kernel
theorem d_M_lowest_36 : decode b_M_lowest 36 = .ok (.putfield 78, 3) := by decide +kernel
theorem d_M_lowest_39 : decode b_M_lowest 39 = .ok (.aload_n 0, 1) := by decide +kernel
theorem d_M_lowest_40 : decode b_M_lowest 40 = .ok (.lload_n 3, 1) := by decide +kernel
theorem d_M_lowest_41 : decode b_M_lowest 41 = .ok (.lload 5, 2) := by decide +kernel
theorem d_M_lowest_43 : decode b_M_lowest 43 = .ok (.ldiv, 1) := by decide +kernel
theorem d_M_lowest_44 : decode b_M_lowest 44 = .ok (.putfield 82, 3) := by decide +kernel
theorem d_M_lowest_47 : decode b_M_lowest 47 = .ok (.return_, 1) := by decide +kernel
theorem d_M_reckonTrip_0 : decode b_M_reckonTrip 0 = .ok (.aload_n 0, 1) := by decide +kernel
theorem d_M_reckonTrip_1 : decode b_M_reckonTrip 1 = .ok (.getfield 16, 3) := by decide +kernel
theorem d_M_reckonTrip_4 : decode b_M_reckonTrip 4 = .ok (.iload_n 1, 1) := by decide +kernel
theorem d_M_reckonTrip_5 : decode b_M_reckonTrip 5 = .ok (.iaload, 1) := by decide +kernel
theorem d_M_reckonTrip_6 : decode b_M_reckonTrip 6 = .ok (.istore 4, 2) := by decide +kernel
theorem d_M_reckonTrip_8 : decode b_M_reckonTrip 8 = .ok (.aload_n 0, 1) := by decide +kernel
theorem d_M_reckonTrip_9 : decode b_M_reckonTrip 9 = .ok (.iload_n 2, 1) := by decide +kernel
theorem d_M_reckonTrip_10 : decode b_M_reckonTrip 10 = .ok (.iload_n 3, 1) := by decide +kernel
theorem d_M_reckonTrip_11 : decode b_M_reckonTrip 11 = .ok (.invokevirtual 70, 3) := by decide +kernel
theorem d_M_reckonTrip_14 : decode b_M_reckonTrip 14 = .ok (.i2l, 1) := by decide +kernel
theorem d_M_reckonTrip_15 : decode b_M_reckonTrip 15 = .ok (.iload 4, 2) := by decide +kernel
theorem d_M_reckonTrip_17 : decode b_M_reckonTrip 17 = .ok (.invokestatic 74, 3) := by decide +kernel
theorem d_M_reckonTrip_20 : decode b_M_reckonTrip 20 = .ok (.lstore 5, 2) := by decide +kernel
theorem d_M_reckonTrip_22 : decode b_M_reckonTrip 22 = .ok (.lload 5, 2) := by decide +kernel
theorem d_M_reckonTrip_24 : decode b_M_reckonTrip 24 = .ok (.lconst 0, 1) := by decide +kernel
theorem d_M_reckonTrip_25 : decode b_M_reckonTrip 25 = .ok (.lcmp, 1) := by decide +kernel
theorem d_M_reckonTrip_26 : decode b_M_reckonTrip 26 = .ok (.ifCond .ne 10, 3) := by decide +kernel
theorem d_M_reckonTrip_29 : decode b_M_reckonTrip 29 = .ok (.aload_n 0, 1) := by decide +kernel
theorem d_M_reckonTrip_30 : decode b_M_reckonTrip 30 = .ok (.lconst 0, 1) := by decide +kernel
theorem d_M_reckonTrip_31 : decode b_M_reckonTrip 31 = .ok (.lconst 1, 1) := by decide +kernel
theorem d_M_reckonTrip_32 : decode b_M_reckonTrip 32 = .ok (.invokevirtual 85, 3) := by decide +kernel
theorem d_M_reckonTrip_35 : decode b_M_reckonTrip 35 = .ok (.return_, 1) := by decide +kernel
theorem d_M_reckonTrip_36 : decode b_M_reckonTrip 36 = .ok (.aload_n 0, 1) := by decide +kernel
theorem d_M_reckonTrip_37 : decode b_M_reckonTrip 37 = .ok (.getfield 19, 3) := by decide +kernel
theorem d_M_reckonTrip_40 : decode b_M_reckonTrip 40 = .ok (.iload_n 1, 1) := by decide +kernel
theorem d_M_reckonTrip_41 : decode b_M_reckonTrip 41 = .ok (.iaload, 1) := by decide +kernel
theorem d_M_reckonTrip_42 : decode b_M_reckonTrip 42 = .ok (.i2l, 1) := by decide +kernel
theorem d_M_reckonTrip_43 : decode b_M_reckonTrip 43 = .ok (.lstore 7, 2) := by decide +kernel
theorem d_M_reckonTrip_45 : decode b_M_reckonTrip 45 = .ok (.aload_n 0, 1) := by decide +kernel
theorem d_M_reckonTrip_46 : decode b_M_reckonTrip 46 = .ok (.iload 4, 2) := by decide +kernel
theorem d_M_reckonTrip_48 : decode b_M_reckonTrip 48 = .ok (.iload_n 2, 1) := by decide +kernel
theorem d_M_reckonTrip_49 : decode b_M_reckonTrip 49 = .ok (.iload_n 3, 1) := by decide +kernel
theorem d_M_reckonTrip_50 : decode b_M_reckonTrip 50 = .ok (.invokevirtual 89, 3) := by decide +kernel
theorem d_M_reckonTrip_53 : decode b_M_reckonTrip 53 = .ok (.lload 5, 2) := by decide +kernel
theorem d_M_reckonTrip_55 : decode b_M_reckonTrip 55 = .ok (.ladd, 1) := by decide +kernel
theorem d_M_reckonTrip_56 : decode b_M_reckonTrip 56 = .ok (.aload_n 0, 1) := by decide +kernel
theorem d_M_reckonTrip_57 : decode b_M_reckonTrip 57 = .ok (.getfield 22, 3) := by decide +kernel
theorem d_M_reckonTrip_60 : decode b_M_reckonTrip 60 = .ok (.iload_n 1, 1) := by decide +kernel
theorem d_M_reckonTrip_61 : decode b_M_reckonTrip 61 = .ok (.iaload, 1) := by decide +kernel
theorem d_M_reckonTrip_62 : decode b_M_reckonTrip 62 = .ok (.i2l, 1) := by decide +kernel
theorem d_M_reckonTrip_63 : decode b_M_reckonTrip 63 = .ok (.lmul, 1) := by decide +kernel
theorem d_M_reckonTrip_64 : decode b_M_reckonTrip 64 = .ok (.lload 7, 2) := by decide +kernel
theorem d_M_reckonTrip_66 : decode b_M_reckonTrip 66 = .ok (.lmul, 1) := by decide +kernel
theorem d_M_reckonTrip_67 : decode b_M_reckonTrip 67 = .ok (.lstore 9, 2) := by decide +kernel
theorem d_M_reckonTrip_69 : decode b_M_reckonTrip 69 = .ok (.ldc2_w 93, 3) := by decide +kernel
theorem d_M_reckonTrip_72 : decode b_M_reckonTrip 72 = .ok (.iload 4, 2) := by decide +kernel
theorem d_M_reckonTrip_74 : decode b_M_reckonTrip 74 = .ok (.i2l, 1) := by decide +kernel
theorem d_M_reckonTrip_75 : decode b_M_reckonTrip 75 = .ok (.lmul, 1) := by decide +kernel
theorem d_M_reckonTrip_76 : decode b_M_reckonTrip 76 = .ok (.aload_n 0, 1) := by decide +kernel
theorem d_M_reckonTrip_77 : decode b_M_reckonTrip 77 = .ok (.getfield 25, 3) := by decide +kernel
theorem d_M_reckonTrip_80 : decode b_M_reckonTrip 80 = .ok (.iload_n 1, 1) := by decide +kernel
theorem d_M_reckonTrip_81 : decode b_M_reckonTrip 81 = .ok (.iaload, 1) := by decide +kernel
theorem d_M_reckonTrip_82 : decode b_M_reckonTrip 82 = .ok (.i2l, 1) := by decide +kernel
theorem d_M_reckonTrip_83 : decode b_M_reckonTrip 83 = .ok (.lmul, 1) := by decide +kernel
theorem d_M_reckonTrip_84 : decode b_M_reckonTrip 84 = .ok (.lload 7, 2) := by decide +kernel
theorem d_M_reckonTrip_86 : decode b_M_reckonTrip 86 = .ok (.lmul, 1) := by decide +kernel
theorem d_M_reckonTrip_87 : decode b_M_reckonTrip 87 = .ok (.lload 5, 2) := by decide +kernel
theorem d_M_reckonTrip_89 : decode b_M_reckonTrip 89 = .ok (.lmul, 1) := by decide +kernel
theorem d_M_reckonTrip_90 : decode b_M_reckonTrip 90 = .ok (.lstore 11, 2) := by decide +kernel
theorem d_M_reckonTrip_92 : decode b_M_reckonTrip 92 = .ok (.aload_n 0, 1) := by decide +kernel
theorem d_M_reckonTrip_93 : decode b_M_reckonTrip 93 = .ok (.ldc2_w 93, 3) := by decide +kernel
theorem d_M_reckonTrip_96 : decode b_M_reckonTrip 96 = .ok (.aload_n 0, 1) := by decide +kernel
theorem d_M_reckonTrip_97 : decode b_M_reckonTrip 97 = .ok (.iload 4, 2) := by decide +kernel
theorem d_M_reckonTrip_99 : decode b_M_reckonTrip 99 = .ok (.iload_n 2, 1) := by decide +kernel
theorem d_M_reckonTrip_100 : decode b_M_reckonTrip 100 = .ok (.iload_n 3, 1) := by decide +kernel
theorem d_M_reckonTrip_101 : decode b_M_reckonTrip 101 = .ok (.invokevirtual 95, 3) := by decide +kernel
theorem d_M_reckonTrip_104 : decode b_M_reckonTrip 104 = .ok (.lmul, 1) := by decide +kernel
theorem d_M_reckonTrip_105 : decode b_M_reckonTrip 105 = .ok (.lload 9, 2) := by decide +kernel
theorem d_M_reckonTrip_107 : decode b_M_reckonTrip 107 = .ok (.ladd, 1) := by decide +kernel
theorem d_M_reckonTrip_108 : decode b_M_reckonTrip 108 = .ok (.lload 11, 2) := by decide +kernel
theorem d_M_reckonTrip_110 : decode b_M_reckonTrip 110 = .ok (.ladd, 1) := by decide +kernel
theorem d_M_reckonTrip_111 : decode b_M_reckonTrip 111 = .ok (.lload 7, 2) := by decide +kernel
theorem d_M_reckonTrip_113 : decode b_M_reckonTrip 113 = .ok (.lload 5, 2) := by decide +kernel
theorem d_M_reckonTrip_115 : decode b_M_reckonTrip 115 = .ok (.lmul, 1) := by decide +kernel
theorem d_M_reckonTrip_116 : decode b_M_reckonTrip 116 = .ok (.invokevirtual 85, 3) := by decide +kernel
theorem d_M_reckonTrip_119 : decode b_M_reckonTrip 119 = .ok (.return_, 1) := by decide +kernel
theorem d_M_noZone_0 : decode b_M_noZone 0 = .ok (.iload_n 1, 1) := by decide +kernel
theorem d_M_noZone_1 : decode b_M_noZone 1 = .ok (.iconst 0, 1) := by decide +kernel
theorem d_M_noZone_2 : decode b_M_noZone 2 = .ok (.aload_n 0, 1) := by decide +kernel
theorem d_M_noZone_3 : decode b_M_noZone 3 = .ok (.getfield 67, 3) := by decide +kernel
theorem d_M_noZone_6 : decode b_M_noZone 6 = .ok (.iconst 1, 1) := by decide +kernel
theorem d_M_noZone_7 : decode b_M_noZone 7 = .ok (.isub, 1) := by decide +kernel
theorem d_M_noZone_8 : decode b_M_noZone 8 = .ok (.invokestatic 54, 3) := by decide +kernel
theorem d_M_noZone_11 : decode b_M_noZone 11 = .ok (.ifCond .eq 24, 3) := by decide +kernel
theorem d_M_noZone_14 : decode b_M_noZone 14 = .ok (.aload_n 0, 1) := by decide +kernel
theorem d_M_noZone_15 : decode b_M_noZone 15 = .ok (.iload_n 2, 1) := by decide +kernel
theorem d_M_noZone_16 : decode b_M_noZone 16 = .ok (.invokevirtual 62, 3) := by decide +kernel
theorem d_M_noZone_19 : decode b_M_noZone 19 = .ok (.ifCond .ne 16, 3) := by decide +kernel
theorem d_M_noZone_22 : decode b_M_noZone 22 = .ok (.aload_n 0, 1) := by decide +kernel
theorem d_M_noZone_23 : decode b_M_noZone 23 = .ok (.iload_n 3, 1) := by decide +kernel
theorem d_M_noZone_24 : decode b_M_noZone 24 = .ok (.invokevirtual 62, 3) := by decide +kernel
theorem d_M_noZone_27 : decode b_M_noZone 27 = .ok (.ifCond .ne 8, 3) := by decide +kernel
theorem d_M_noZone_30 : decode b_M_noZone 30 = .ok (.iload_n 3, 1) := by decide +kernel
theorem d_M_noZone_31 : decode b_M_noZone 31 = .ok (.iload_n 2, 1) := by decide +kernel
theorem d_M_noZone_32 : decode b_M_noZone 32 = .ok (.if_icmp .ge 7, 3) := by decide +kernel
theorem d_M_noZone_35 : decode b_M_noZone 35 = .ok (.iconst 1, 1) := by decide +kernel
theorem d_M_noZone_36 : decode b_M_noZone 36 = .ok (.goto 4, 3) := by decide +kernel
theorem d_M_noZone_39 : decode b_M_noZone 39 = .ok (.iconst 0, 1) := by decide +kernel
theorem d_M_noZone_40 : decode b_M_noZone 40 = .ok (.ireturn, 1) := by decide +kernel
theorem d_M_part_0 : decode b_M_part 0 = .ok (.iload_n 1, 1) := by decide +kernel
theorem d_M_part_1 : decode b_M_part 1 = .ok (.ifCond .ne 10, 3) := by decide +kernel
theorem d_M_part_4 : decode b_M_part 4 = .ok (.aload_n 0, 1) := by decide +kernel
theorem d_M_part_5 : decode b_M_part 5 = .ok (.getfield 78, 3) := by decide +kernel
theorem d_M_part_8 : decode b_M_part 8 = .ok (.goto 7, 3) := by decide +kernel
theorem d_M_part_11 : decode b_M_part 11 = .ok (.aload_n 0, 1) := by decide +kernel
theorem d_M_part_12 : decode b_M_part 12 = .ok (.getfield 82, 3) := by decide +kernel
theorem d_M_part_15 : decode b_M_part 15 = .ok (.lreturn, 1) := by decide +kernel
theorem d_M_stops_0 : decode b_M_stops 0 = .ok (.aload_n 0, 1) := by decide +kernel
theorem d_M_stops_1 : decode b_M_stops 1 = .ok (.aload_n 0, 1) := by decide +kernel
theorem d_M_stops_2 : decode b_M_stops 2 = .ok (.iload_n 1, 1) := by decide +kernel
theorem d_M_stops_3 : decode b_M_stops 3 = .ok (.iload_n 2, 1) := by decide +kernel
theorem d_M_stops_4 : decode b_M_stops 4 = .ok (.iload_n 3, 1) := by decide +kernel
theorem d_M_stops_5 : decode b_M_stops 5 = .ok (.invokevirtual 98, 3) := by decide +kernel
theorem d_M_stops_8 : decode b_M_stops 8 = .ok (.ifCond .ne 13, 3) := by decide +kernel
theorem d_M_stops_11 : decode b_M_stops 11 = .ok (.iload 4, 2) := by decide +kernel
theorem d_M_stops_13 : decode b_M_stops 13 = .ok (.iconst 0, 1) := by decide +kernel
theorem d_M_stops_14 : decode b_M_stops 14 = .ok (.iconst 1, 1) := by decide +kernel
theorem d_M_stops_15 : decode b_M_stops 15 = .ok (.invokestatic 54, 3) := by decide +kernel
theorem d_M_stops_18 : decode b_M_stops 18 = .ok (.ifCond .ne 7, 3) := by decide +kernel
theorem d_M_stops_21 : decode b_M_stops 21 = .ok (.iconst 1, 1) := by decide +kernel
theorem d_M_stops_22 : decode b_M_stops 22 = .ok (.goto 4, 3) := by decide +kernel
theorem d_M_stops_25 : decode b_M_stops 25 = .ok (.iconst 0, 1) := by decide +kernel
theorem d_M_stops_26 : decode b_M_stops 26 = .ok (.putfield 47, 3) := by decide +kernel
theorem d_M_stops_29 : decode b_M_stops 29 = .ok (.aload_n 0, 1) := by decide +kernel
theorem d_M_stops_30 : decode b_M_stops 30 = .ok (.getfield 47, 3) := by decide +kernel
theorem d_M_stops_33 : decode b_M_stops 33 = .ok (.ifCond .le 5, 3) := by decide +kernel
theorem d_M_stops_36 : decode b_M_stops 36 = .ok (.lconst 0, 1) := by decide +kernel
theorem d_M_stops_37 : decode b_M_stops 37 = .ok (.lreturn, 1) := by decide +kernel
theorem d_M_stops_38 : decode b_M_stops 38 = .ok (.aload_n 0, 1) := by decide +kernel
theorem d_M_stops_39 : decode b_M_stops 39 = .ok (.iload_n 2, 1) := by decide +kernel
theorem d_M_stops_40 : decode b_M_stops 40 = .ok (.iload_n 3, 1) := by decide +kernel
theorem d_M_stops_41 : decode b_M_stops 41 = .ok (.invokevirtual 70, 3) := by decide +kernel
theorem d_M_stops_44 : decode b_M_stops 44 = .ok (.i2l, 1) := by decide +kernel
theorem d_M_stops_45 : decode b_M_stops 45 = .ok (.aload_n 0, 1) := by decide +kernel
theorem d_M_stops_46 : decode b_M_stops 46 = .ok (.getfield 16, 3) := by decide +kernel
theorem d_M_stops_49 : decode b_M_stops 49 = .ok (.iload_n 1, 1) := by decide +kernel
theorem d_M_stops_50 : decode b_M_stops 50 = .ok (.iaload, 1) := by decide +kernel
theorem d_M_stops_51 : decode b_M_stops 51 = .ok (.invokestatic 74, 3) := by decide +kernel
theorem d_M_stops_54 : decode b_M_stops 54 = .ok (.lstore 5, 2) := by decide +kernel
theorem d_M_stops_56 : decode b_M_stops 56 = .ok (.aload_n 0, 1) := by decide +kernel
theorem d_M_stops_57 : decode b_M_stops 57 = .ok (.aload_n 0, 1) := by decide +kernel
theorem d_M_stops_58 : decode b_M_stops 58 = .ok (.aload_n 0, 1) := by decide +kernel
theorem d_M_stops_59 : decode b_M_stops 59 = .ok (.getfield 16, 3) := by decide +kernel
theorem d_M_stops_62 : decode b_M_stops 62 = .ok (.iload_n 1, 1) := by decide +kernel
theorem d_M_stops_63 : decode b_M_stops 63 = .ok (.iaload, 1) := by decide +kernel
theorem d_M_stops_64 : decode b_M_stops 64 = .ok (.iload_n 2, 1) := by decide +kernel
theorem d_M_stops_65 : decode b_M_stops 65 = .ok (.iload_n 3, 1) := by decide +kernel
theorem d_M_stops_66 : decode b_M_stops 66 = .ok (.invokevirtual 89, 3) := by decide +kernel
theorem d_M_stops_69 : decode b_M_stops 69 = .ok (.lload 5, 2) := by decide +kernel
theorem d_M_stops_71 : decode b_M_stops 71 = .ok (.lconst 0, 1) := by decide +kernel
theorem d_M_stops_72 : decode b_M_stops 72 = .ok (.lcmp, 1) := by decide +kernel
theorem d_M_stops_73 : decode b_M_stops 73 = .ok (.ifCond .ne 7, 3) := by decide +kernel
theorem d_M_stops_76 : decode b_M_stops 76 = .ok (.lconst 1, 1) := by decide +kernel
theorem d_M_stops_77 : decode b_M_stops 77 = .ok (.goto 5, 3) := by decide +kernel
theorem d_M_stops_80 : decode b_M_stops 80 = .ok (.lload 5, 2) := by decide +kernel
theorem d_M_stops_82 : decode b_M_stops 82 = .ok (.invokevirtual 85, 3) := by decide +kernel
theorem d_M_stops_85 : decode b_M_stops 85 = .ok (.aload_n 0, 1) := by decide +kernel
theorem d_M_stops_86 : decode b_M_stops 86 = .ok (.iload 4, 2) := by decide +kernel
theorem d_M_stops_88 : decode b_M_stops 88 = .ok (.invokevirtual 101, 3) := by decide +kernel
theorem d_M_stops_91 : decode b_M_stops 91 = .ok (.lreturn, 1) := by decide +kernel
theorem d_M_highest_0 : decode b_M_highest 0 = .ok (.aload_n 0, 1) := by decide +kernel
theorem d_M_highest_1 : decode b_M_highest 1 = .ok (.aload_n 0, 1) := by decide +kernel
theorem d_M_highest_2 : decode b_M_highest 2 = .ok (.iload_n 1, 1) := by decide +kernel
theorem d_M_highest_3 : decode b_M_highest 3 = .ok (.iload_n 2, 1) := by decide +kernel
theorem d_M_highest_4 : decode b_M_highest 4 = .ok (.iload_n 3, 1) := by decide +kernel
theorem d_M_highest_5 : decode b_M_highest 5 = .ok (.invokevirtual 98, 3) := by decide +kernel
theorem d_M_highest_8 : decode b_M_highest 8 = .ok (.ifCond .ne 13, 3) := by decide +kernel
theorem d_M_highest_11 : decode b_M_highest 11 = .ok (.iload 4, 2) := by decide +kernel
theorem d_M_highest_13 : decode b_M_highest 13 = .ok (.iconst 0, 1) := by decide +kernel
theorem d_M_highest_14 : decode b_M_highest 14 = .ok (.iconst 1, 1) := by decide +kernel
theorem d_M_highest_15 : decode b_M_highest 15 = .ok (.invokestatic 54, 3) := by decide +kernel
theorem d_M_highest_18 : decode b_M_highest 18 = .ok (.ifCond .ne 7, 3) := by decide +kernel
theorem d_M_highest_21 : decode b_M_highest 21 = .ok (.iconst 1, 1) := by decide +kernel
theorem d_M_highest_22 : decode b_M_highest 22 = .ok (.goto 4, 3) := by decide +kernel
theorem d_M_highest_25 : decode b_M_highest 25 = .ok (.iconst 0, 1) := by decide +kernel
theorem d_M_highest_26 : decode b_M_highest 26 = .ok (.putfield 47, 3) := by decide +kernel
theorem d_M_highest_29 : decode b_M_highest 29 = .ok (.aload_n 0, 1) := by decide +kernel
theorem d_M_highest_30 : decode b_M_highest 30 = .ok (.getfield 47, 3) := by decide +kernel
theorem d_M_highest_33 : decode b_M_highest 33 = .ok (.ifCond .le 5, 3) := by decide +kernel
theorem d_M_highest_36 : decode b_M_highest 36 = .ok (.lconst 0, 1) := by decide +kernel
theorem d_M_highest_37 : decode b_M_highest 37 = .ok (.lreturn, 1) := by decide +kernel
theorem d_M_highest_38 : decode b_M_highest 38 = .ok (.aload_n 0, 1) := by decide +kernel
theorem d_M_highest_39 : decode b_M_highest 39 = .ok (.iload_n 2, 1) := by decide +kernel
theorem d_M_highest_40 : decode b_M_highest 40 = .ok (.iload_n 3, 1) := by decide +kernel
theorem d_M_highest_41 : decode b_M_highest 41 = .ok (.invokevirtual 70, 3) := by decide +kernel
theorem d_M_highest_44 : decode b_M_highest 44 = .ok (.i2l, 1) := by decide +kernel
theorem d_M_highest_45 : decode b_M_highest 45 = .ok (.aload_n 0, 1) := by decide +kernel
theorem d_M_highest_46 : decode b_M_highest 46 = .ok (.getfield 16, 3) := by decide +kernel
theorem d_M_highest_49 : decode b_M_highest 49 = .ok (.iload_n 1, 1) := by decide +kernel
theorem d_M_highest_50 : decode b_M_highest 50 = .ok (.iaload, 1) := by decide +kernel
theorem d_M_highest_51 : decode b_M_highest 51 = .ok (.invokestatic 74, 3) := by decide +kernel
theorem d_M_highest_54 : decode b_M_highest 54 = .ok (.lstore 5, 2) := by decide +kernel
theorem d_M_highest_56 : decode b_M_highest 56 = .ok (.aload_n 0, 1) := by decide +kernel
theorem d_M_highest_57 : decode b_M_highest 57 = .ok (.aload_n 0, 1) := by decide +kernel
theorem d_M_highest_58 : decode b_M_highest 58 = .ok (.aload_n 0, 1) := by decide +kernel
theorem d_M_highest_59 : decode b_M_highest 59 = .ok (.getfield 16, 3) := by decide +kernel
theorem d_M_highest_62 : decode b_M_highest 62 = .ok (.iload_n 1, 1) := by decide +kernel
theorem d_M_highest_63 : decode b_M_highest 63 = .ok (.iaload, 1) := by decide +kernel
theorem d_M_highest_64 : decode b_M_highest 64 = .ok (.iload_n 2, 1) := by decide +kernel
theorem d_M_highest_65 : decode b_M_highest 65 = .ok (.iload_n 3, 1) := by decide +kernel
theorem d_M_highest_66 : decode b_M_highest 66 = .ok (.invokevirtual 95, 3) := by decide +kernel
theorem d_M_highest_69 : decode b_M_highest 69 = .ok (.lload 5, 2) := by decide +kernel
theorem d_M_highest_71 : decode b_M_highest 71 = .ok (.lconst 0, 1) := by decide +kernel
theorem d_M_highest_72 : decode b_M_highest 72 = .ok (.lcmp, 1) := by decide +kernel
theorem d_M_highest_73 : decode b_M_highest 73 = .ok (.ifCond .ne 7, 3) := by decide +kernel
theorem d_M_highest_76 : decode b_M_highest 76 = .ok (.lconst 1, 1) := by decide +kernel
theorem d_M_highest_77 : decode b_M_highest 77 = .ok (.goto 5, 3) := by decide +kernel
theorem d_M_highest_80 : decode b_M_highest 80 = .ok (.lload 5, 2) := by decide +kernel
theorem d_M_highest_82 : decode b_M_highest 82 = .ok (.invokevirtual 85, 3) := by decide +kernel
theorem d_M_highest_85 : decode b_M_highest 85 = .ok (.aload_n 0, 1) := by decide +kernel
theorem d_M_highest_86 : decode b_M_highest 86 = .ok (.iload 4, 2) := by decide +kernel
theorem d_M_highest_88 : decode b_M_highest 88 = .ok (.invokevirtual 101, 3) := by decide +kernel
theorem d_M_highest_91 : decode b_M_highest 91 = .ok (.lreturn, 1) := by decide +kernel
theorem d_M_trip_0 : decode b_M_trip 0 = .ok (.aload_n 0, 1) := by decide +kernel
theorem d_M_trip_1 : decode b_M_trip 1 = .ok (.aload_n 0, 1) := by decide +kernel
theorem d_M_trip_2 : decode b_M_trip 2 = .ok (.iload_n 1, 1) := by decide +kernel
theorem d_M_trip_3 : decode b_M_trip 3 = .ok (.iload_n 2, 1) := by decide +kernel
theorem d_M_trip_4 : decode b_M_trip 4 = .ok (.iload_n 3, 1) := by decide +kernel
theorem d_M_trip_5 : decode b_M_trip 5 = .ok (.invokevirtual 98, 3) := by decide +kernel
theorem d_M_trip_8 : decode b_M_trip 8 = .ok (.ifCond .ne 13, 3) := by decide +kernel
theorem d_M_trip_11 : decode b_M_trip 11 = .ok (.iload 4, 2) := by decide +kernel
theorem d_M_trip_13 : decode b_M_trip 13 = .ok (.iconst 0, 1) := by decide +kernel
theorem d_M_trip_14 : decode b_M_trip 14 = .ok (.iconst 1, 1) := by decide +kernel
theorem d_M_trip_15 : decode b_M_trip 15 = .ok (.invokestatic 54, 3) := by decide +kernel
theorem d_M_trip_18 : decode b_M_trip 18 = .ok (.ifCond .ne 7, 3) := by decide +kernel
theorem d_M_trip_21 : decode b_M_trip 21 = .ok (.iconst 1, 1) := by decide +kernel
theorem d_M_trip_22 : decode b_M_trip 22 = .ok (.goto 4, 3) := by decide +kernel
theorem d_M_trip_25 : decode b_M_trip 25 = .ok (.iconst 0, 1) := by decide +kernel
theorem d_M_trip_26 : decode b_M_trip 26 = .ok (.putfield 47, 3) := by decide +kernel
theorem d_M_trip_29 : decode b_M_trip 29 = .ok (.aload_n 0, 1) := by decide +kernel
theorem d_M_trip_30 : decode b_M_trip 30 = .ok (.getfield 47, 3) := by decide +kernel
theorem d_M_trip_33 : decode b_M_trip 33 = .ok (.ifCond .le 5, 3) := by decide +kernel
theorem d_M_trip_36 : decode b_M_trip 36 = .ok (.lconst 0, 1) := by decide +kernel
theorem d_M_trip_37 : decode b_M_trip 37 = .ok (.lreturn, 1) := by decide +kernel
theorem d_M_trip_38 : decode b_M_trip 38 = .ok (.aload_n 0, 1) := by decide +kernel
theorem d_M_trip_39 : decode b_M_trip 39 = .ok (.iload_n 1, 1) := by decide +kernel
theorem d_M_trip_40 : decode b_M_trip 40 = .ok (.iload_n 2, 1) := by decide +kernel
theorem d_M_trip_41 : decode b_M_trip 41 = .ok (.iload_n 3, 1) := by decide +kernel
theorem d_M_trip_42 : decode b_M_trip 42 = .ok (.invokevirtual 105, 3) := by decide +kernel
theorem d_M_trip_45 : decode b_M_trip 45 = .ok (.aload_n 0, 1) := by decide +kernel
theorem d_M_trip_46 : decode b_M_trip 46 = .ok (.iload 4, 2) := by decide +kernel
theorem d_M_trip_48 : decode b_M_trip 48 = .ok (.invokevirtual 101, 3) := by decide +kernel
theorem d_M_trip_51 : decode b_M_trip 51 = .ok (.lreturn, 1) := by decide +kernel
theorem d_M_order_0 : decode b_M_order 0 = .ok (.lload_n 0, 1) := by decide +kernel
theorem d_M_order_1 : decode b_M_order 1 = .ok (.lstore 8, 2) := by decide +kernel
theorem d_M_order_3 : decode b_M_order 3 = .ok (.lload_n 2, 1) := by decide +kernel
theorem d_M_order_4 : decode b_M_order 4 = .ok (.lstore 10, 2) := by decide +kernel
theorem d_M_order_6 : decode b_M_order 6 = .ok (.lload 4, 2) := by decide +kernel
theorem d_M_order_8 : decode b_M_order 8 = .ok (.lstore 12, 2) := by decide +kernel
theorem d_M_order_10 : decode b_M_order 10 = .ok (.lload 6, 2) := by decide +kernel
theorem d_M_order_12 : decode b_M_order 12 = .ok (.lstore 14, 2) := by decide +kernel
theorem d_M_order_14 : decode b_M_order 14 = .ok (.iconst 1, 1) := by decide +kernel
theorem d_M_order_15 : decode b_M_order 15 = .ok (.istore 16, 2) := by decide +kernel
theorem d_M_order_17 : decode b_M_order 17 = .ok (.lload 8, 2) := by decide +kernel
theorem d_M_order_19 : decode b_M_order 19 = .ok (.lload 10, 2) := by decide +kernel
theorem d_M_order_21 : decode b_M_order 21 = .ok (.ldiv, 1) := by decide +kernel
theorem d_M_order_22 : decode b_M_order 22 = .ok (.lload 12, 2) := by decide +kernel
theorem d_M_order_24 : decode b_M_order 24 = .ok (.lload 14, 2) := by decide +kernel
theorem d_M_order_26 : decode b_M_order 26 = .ok (.ldiv, 1) := by decide +kernel
theorem d_M_order_27 : decode b_M_order 27 = .ok (.lcmp, 1) := by decide +kernel
theorem d_M_order_28 : decode b_M_order 28 = .ok (.ifCond .ne 83, 3) := by decide +kernel
theorem d_M_order_31 : decode b_M_order 31 = .ok (.lload 8, 2) := by decide +kernel
theorem d_M_order_33 : decode b_M_order 33 = .ok (.lload 10, 2) := by decide +kernel
theorem d_M_order_35 : decode b_M_order 35 = .ok (.lrem, 1) := by decide +kernel
theorem d_M_order_36 : decode b_M_order 36 = .ok (.lstore 17, 2) := by decide +kernel
theorem d_M_order_38 : decode b_M_order 38 = .ok (.lload 12, 2) := by decide +kernel
theorem d_M_order_40 : decode b_M_order 40 = .ok (.lload 14, 2) := by decide +kernel
theorem d_M_order_42 : decode b_M_order 42 = .ok (.lrem, 1) := by decide +kernel
theorem d_M_order_43 : decode b_M_order 43 = .ok (.lstore 19, 2) := by decide +kernel
theorem d_M_order_45 : decode b_M_order 45 = .ok (.lload 17, 2) := by decide +kernel
theorem d_M_order_47 : decode b_M_order 47 = .ok (.lconst 0, 1) := by decide +kernel
theorem d_M_order_48 : decode b_M_order 48 = .ok (.lcmp, 1) := by decide +kernel
theorem d_M_order_49 : decode b_M_order 49 = .ok (.ifCond .eq 10, 3) := by decide +kernel
theorem d_M_order_52 : decode b_M_order 52 = .ok (.lload 19, 2) := by decide +kernel
theorem d_M_order_54 : decode b_M_order 54 = .ok (.lconst 0, 1) := by decide +kernel
theorem d_M_order_55 : decode b_M_order 55 = .ok (.lcmp, 1) := by decide +kernel
theorem d_M_order_56 : decode b_M_order 56 = .ok (.ifCond .ne 31, 3) := by decide +kernel
theorem d_M_order_59 : decode b_M_order 59 = .ok (.lload 17, 2) := by decide +kernel
theorem d_M_order_61 : decode b_M_order 61 = .ok (.lload 19, 2) := by decide +kernel
theorem d_M_order_63 : decode b_M_order 63 = .ok (.lcmp, 1) := by decide +kernel
theorem d_M_order_64 : decode b_M_order 64 = .ok (.ifCond .ne 7, 3) := by decide +kernel
theorem d_M_order_67 : decode b_M_order 67 = .ok (.iconst 0, 1) := by decide +kernel
theorem d_M_order_68 : decode b_M_order 68 = .ok (.goto 18, 3) := by decide +kernel
theorem d_M_order_71 : decode b_M_order 71 = .ok (.lload 17, 2) := by decide +kernel
theorem d_M_order_73 : decode b_M_order 73 = .ok (.lconst 0, 1) := by decide +kernel
theorem d_M_order_74 : decode b_M_order 74 = .ok (.lcmp, 1) := by decide +kernel
theorem d_M_order_75 : decode b_M_order 75 = .ok (.ifCond .ne 9, 3) := by decide +kernel
theorem d_M_order_78 : decode b_M_order 78 = .ok (.iload 16, 2) := by decide +kernel
theorem d_M_order_80 : decode b_M_order 80 = .ok (.ineg, 1) := by decide +kernel
theorem d_M_order_81 : decode b_M_order 81 = .ok (.goto 5, 3) := by decide +kernel
theorem d_M_order_84 : decode b_M_order 84 = .ok (.iload 16, 2) := by decide +kernel
theorem d_M_order_86 : decode b_M_order 86 = .ok (.ireturn, 1) := by decide +kernel
theorem d_M_order_87 : decode b_M_order 87 = .ok (.lload 10, 2) := by decide +kernel
theorem d_M_order_89 : decode b_M_order 89 = .ok (.lstore 8, 2) := by decide +kernel
theorem d_M_order_91 : decode b_M_order 91 = .ok (.lload 17, 2) := by decide +kernel
theorem d_M_order_93 : decode b_M_order 93 = .ok (.lstore 10, 2) := by decide +kernel
theorem d_M_order_95 : decode b_M_order 95 = .ok (.lload 14, 2) := by decide +kernel
theorem d_M_order_97 : decode b_M_order 97 = .ok (.lstore 12, 2) := by decide +kernel
theorem d_M_order_99 : decode b_M_order 99 = .ok (.lload 19, 2) := by decide +kernel
theorem d_M_order_101 : decode b_M_order 101 = .ok (.lstore 14, 2) := by decide +kernel
theorem d_M_order_103 : decode b_M_order 103 = .ok (.iload 16, 2) := by decide +kernel
theorem d_M_order_105 : decode b_M_order 105 = .ok (.ineg, 1) := by decide +kernel
theorem d_M_order_106 : decode b_M_order 106 = .ok (.istore 16, 2) := by decide +kernel
theorem d_M_order_108 : decode b_M_order 108 = .ok (.goto (-91), 3) := by decide +kernel
theorem d_M_order_111 : decode b_M_order 111 = .ok (.lload 8, 2) := by decide +kernel
theorem d_M_order_113 : decode b_M_order 113 = .ok (.lload 10, 2) := by decide +kernel
theorem d_M_order_115 : decode b_M_order 115 = .ok (.ldiv, 1) := by decide +kernel
theorem d_M_order_116 : decode b_M_order 116 = .ok (.lload 12, 2) := by decide +kernel
theorem d_M_order_118 : decode b_M_order 118 = .ok (.lload 14, 2) := by decide +kernel
theorem d_M_order_120 : decode b_M_order 120 = .ok (.ldiv, 1) := by decide +kernel
theorem d_M_order_121 : decode b_M_order 121 = .ok (.lcmp, 1) := by decide +kernel
theorem d_M_order_122 : decode b_M_order 122 = .ok (.ifCond .ge 9, 3) := by decide +kernel
theorem d_M_order_125 : decode b_M_order 125 = .ok (.iload 16, 2) := by decide +kernel
theorem d_M_order_127 : decode b_M_order 127 = .ok (.ineg, 1) := by decide +kernel
theorem d_M_order_128 : decode b_M_order 128 = .ok (.goto 5, 3) := by decide +kernel
theorem d_M_order_131 : decode b_M_order 131 = .ok (.iload 16, 2) := by decide +kernel
theorem d_M_order_133 : decode b_M_order 133 = .ok (.ireturn, 1) := by decide +kernel
theorem d_M_compare_0 : decode b_M_compare 0 = .ok (.aload_n 0, 1) := by decide +kernel
theorem d_M_compare_1 : decode b_M_compare 1 = .ok (.aload_n 0, 1) := by decide +kernel
theorem d_M_compare_2 : decode b_M_compare 2 = .ok (.iload_n 1, 1) := by decide +kernel
theorem d_M_compare_3 : decode b_M_compare 3 = .ok (.iload_n 3, 1) := by decide +kernel
theorem d_M_compare_4 : decode b_M_compare 4 = .ok (.iload 4, 2) := by decide +kernel
theorem d_M_compare_6 : decode b_M_compare 6 = .ok (.invokevirtual 98, 3) := by decide +kernel
theorem d_M_compare_9 : decode b_M_compare 9 = .ok (.ifCond .ne 17, 3) := by decide +kernel
theorem d_M_compare_12 : decode b_M_compare 12 = .ok (.iload_n 2, 1) := by decide +kernel
theorem d_M_compare_13 : decode b_M_compare 13 = .ok (.iconst 0, 1) := by decide +kernel
theorem d_M_compare_14 : decode b_M_compare 14 = .ok (.aload_n 0, 1) := by decide +kernel
theorem d_M_compare_15 : decode b_M_compare 15 = .ok (.getfield 67, 3) := by decide +kernel
theorem d_M_compare_18 : decode b_M_compare 18 = .ok (.iconst 1, 1) := by decide +kernel
theorem d_M_compare_19 : decode b_M_compare 19 = .ok (.isub, 1) := by decide +kernel
theorem d_M_compare_20 : decode b_M_compare 20 = .ok (.invokestatic 54, 3) := by decide +kernel
theorem d_M_compare_23 : decode b_M_compare 23 = .ok (.ifCond .ne 7, 3) := by decide +kernel
theorem d_M_compare_26 : decode b_M_compare 26 = .ok (.iconst 1, 1) := by decide +kernel
theorem d_M_compare_27 : decode b_M_compare 27 = .ok (.goto 4, 3) := by decide +kernel
theorem d_M_compare_30 : decode b_M_compare 30 = .ok (.iconst 0, 1) := by decide +kernel
theorem d_M_compare_31 : decode b_M_compare 31 = .ok (.putfield 47, 3) := by decide +kernel
theorem d_M_compare_34 : decode b_M_compare 34 = .ok (.aload_n 0, 1) := by decide +kernel
theorem d_M_compare_35 : decode b_M_compare 35 = .ok (.getfield 47, 3) := by decide +kernel
theorem d_M_compare_38 : decode b_M_compare 38 = .ok (.ifCond .le 5, 3) := by decide +kernel
theorem d_M_compare_41 : decode b_M_compare 41 = .ok (.iconst 0, 1) := by decide +kernel
theorem d_M_compare_42 : decode b_M_compare 42 = .ok (.ireturn, 1) := by decide +kernel
theorem d_M_compare_43 : decode b_M_compare 43 = .ok (.aload_n 0, 1) := by decide +kernel
theorem d_M_compare_44 : decode b_M_compare 44 = .ok (.iload_n 1, 1) := by decide +kernel
theorem d_M_compare_45 : decode b_M_compare 45 = .ok (.iload_n 3, 1) := by decide +kernel
theorem d_M_compare_46 : decode b_M_compare 46 = .ok (.iload 4, 2) := by decide +kernel
theorem d_M_compare_48 : decode b_M_compare 48 = .ok (.invokevirtual 105, 3) := by decide +kernel
theorem d_M_compare_51 : decode b_M_compare 51 = .ok (.aload_n 0, 1) := by decide +kernel
theorem d_M_compare_52 : decode b_M_compare 52 = .ok (.getfield 78, 3) := by decide +kernel
theorem d_M_compare_55 : decode b_M_compare 55 = .ok (.lstore 5, 2) := by decide +kernel
theorem d_M_compare_57 : decode b_M_compare 57 = .ok (.aload_n 0, 1) := by decide +kernel
theorem d_M_compare_58 : decode b_M_compare 58 = .ok (.getfield 82, 3) := by decide +kernel
theorem d_M_compare_61 : decode b_M_compare 61 = .ok (.lstore 7, 2) := by decide +kernel
theorem d_M_compare_63 : decode b_M_compare 63 = .ok (.aload_n 0, 1) := by decide +kernel
theorem d_M_compare_64 : decode b_M_compare 64 = .ok (.iload_n 2, 1) := by decide +kernel
theorem d_M_compare_65 : decode b_M_compare 65 = .ok (.iload_n 3, 1) := by decide +kernel
theorem d_M_compare_66 : decode b_M_compare 66 = .ok (.iload 4, 2) := by decide +kernel
theorem d_M_compare_68 : decode b_M_compare 68 = .ok (.invokevirtual 105, 3) := by decide +kernel
theorem d_M_compare_71 : decode b_M_compare 71 = .ok (.lload 5, 2) := by decide +kernel
theorem d_M_compare_73 : decode b_M_compare 73 = .ok (.lload 7, 2) := by decide +kernel
theorem d_M_compare_75 : decode b_M_compare 75 = .ok (.aload_n 0, 1) := by decide +kernel
theorem d_M_compare_76 : decode b_M_compare 76 = .ok (.getfield 78, 3) := by decide +kernel
theorem d_M_compare_79 : decode b_M_compare 79 = .ok (.aload_n 0, 1) := by decide +kernel
theorem d_M_compare_80 : decode b_M_compare 80 = .ok (.getfield 82, 3) := by decide +kernel
theorem d_M_compare_83 : decode b_M_compare 83 = .ok (.invokestatic 109, 3) := by decide +kernel
theorem d_M_compare_86 : decode b_M_compare 86 = .ok (.ireturn, 1) := by decide +kernel
theorem d_M_carriedBy_0 : decode b_M_carriedBy 0 = .ok (.aload_n 0, 1) := by decide +kernel
theorem d_M_carriedBy_1 : decode b_M_carriedBy 1 = .ok (.iload_n 2, 1) := by decide +kernel
theorem d_M_carriedBy_2 : decode b_M_carriedBy 2 = .ok (.iconst 1, 1) := by decide +kernel
theorem d_M_carriedBy_3 : decode b_M_carriedBy 3 = .ok (.aload_n 0, 1) := by decide +kernel
theorem d_M_carriedBy_4 : decode b_M_carriedBy 4 = .ok (.getfield 51, 3) := by decide +kernel
theorem d_M_carriedBy_7 : decode b_M_carriedBy 7 = .ok (.invokevirtual 105, 3) := by decide +kernel
theorem d_M_carriedBy_10 : decode b_M_carriedBy 10 = .ok (.aload_n 0, 1) := by decide +kernel
theorem d_M_carriedBy_11 : decode b_M_carriedBy 11 = .ok (.getfield 78, 3) := by decide +kernel
theorem d_M_carriedBy_14 : decode b_M_carriedBy 14 = .ok (.lconst 0, 1) := by decide +kernel
theorem d_M_carriedBy_15 : decode b_M_carriedBy 15 = .ok (.lcmp, 1) := by decide +kernel
theorem d_M_carriedBy_16 : decode b_M_carriedBy 16 = .ok (.ifCond .ne 7, 3) := by decide +kernel
theorem d_M_carriedBy_19 : decode b_M_carriedBy 19 = .ok (.lconst 0, 1) := by decide +kernel
theorem d_M_carriedBy_20 : decode b_M_carriedBy 20 = .ok (.goto 27, 3) := by decide +kernel
theorem d_M_carriedBy_23 : decode b_M_carriedBy 23 = .ok (.ldc2_w 113, 3) := by decide +kernel
theorem d_M_carriedBy_26 : decode b_M_carriedBy 26 = .ok (.iload_n 1, 1) := by decide +kernel
theorem d_M_carriedBy_27 : decode b_M_carriedBy 27 = .ok (.i2l, 1) := by decide +kernel
theorem d_M_carriedBy_28 : decode b_M_carriedBy 28 = .ok (.lmul, 1) := by decide +kernel
theorem d_M_carriedBy_29 : decode b_M_carriedBy 29 = .ok (.aload_n 0, 1) := by decide +kernel
theorem d_M_carriedBy_30 : decode b_M_carriedBy 30 = .ok (.getfield 16, 3) := by decide +kernel
theorem d_M_carriedBy_33 : decode b_M_carriedBy 33 = .ok (.iload_n 2, 1) := by decide +kernel
theorem d_M_carriedBy_34 : decode b_M_carriedBy 34 = .ok (.iaload, 1) := by decide +kernel
theorem d_M_carriedBy_35 : decode b_M_carriedBy 35 = .ok (.i2l, 1) := by decide +kernel
theorem d_M_carriedBy_36 : decode b_M_carriedBy 36 = .ok (.lmul, 1) := by decide +kernel
theorem d_M_carriedBy_37 : decode b_M_carriedBy 37 = .ok (.aload_n 0, 1) := by decide +kernel
theorem d_M_carriedBy_38 : decode b_M_carriedBy 38 = .ok (.getfield 82, 3) := by decide +kernel
theorem d_M_carriedBy_41 : decode b_M_carriedBy 41 = .ok (.lmul, 1) := by decide +kernel
theorem d_M_carriedBy_42 : decode b_M_carriedBy 42 = .ok (.aload_n 0, 1) := by decide +kernel
theorem d_M_carriedBy_43 : decode b_M_carriedBy 43 = .ok (.getfield 78, 3) := by decide +kernel
theorem d_M_carriedBy_46 : decode b_M_carriedBy 46 = .ok (.ldiv, 1) := by decide +kernel
theorem d_M_carriedBy_47 : decode b_M_carriedBy 47 = .ok (.lreturn, 1) := by decide +kernel
theorem d_M_carried_0 : decode b_M_carried 0 = .ok (.aload_n 0, 1) := by decide +kernel
theorem d_M_carried_1 : decode b_M_carried 1 = .ok (.iload_n 1, 1) := by decide +kernel
theorem d_M_carried_2 : decode b_M_carried 2 = .ok (.iconst 1, 1) := by decide +kernel
theorem d_M_carried_3 : decode b_M_carried 3 = .ok (.bipush 6, 2) := by decide +kernel
theorem d_M_carried_5 : decode b_M_carried 5 = .ok (.invokestatic 54, 3) := by decide +kernel
theorem d_M_carried_8 : decode b_M_carried 8 = .ok (.ifCond .eq 17, 3) := by decide +kernel
theorem d_M_carried_11 : decode b_M_carried 11 = .ok (.iload_n 2, 1) := by decide +kernel
theorem d_M_carried_12 : decode b_M_carried 12 = .ok (.iconst 0, 1) := by decide +kernel
theorem d_M_carried_13 : decode b_M_carried 13 = .ok (.aload_n 0, 1) := by decide +kernel
theorem d_M_carried_14 : decode b_M_carried 14 = .ok (.getfield 67, 3) := by decide +kernel
theorem d_M_carried_17 : decode b_M_carried 17 = .ok (.iconst 1, 1) := by decide +kernel
theorem d_M_carried_18 : decode b_M_carried 18 = .ok (.isub, 1) := by decide +kernel
theorem d_M_carried_19 : decode b_M_carried 19 = .ok (.invokestatic 54, 3) := by decide +kernel
theorem d_M_carried_22 : decode b_M_carried 22 = .ok (.ifCond .ne 7, 3) := by decide +kernel
theorem d_M_carried_25 : decode b_M_carried 25 = .ok (.iconst 1, 1) := by decide +kernel
theorem d_M_carried_26 : decode b_M_carried 26 = .ok (.goto 15, 3) := by decide +kernel
theorem d_M_carried_29 : decode b_M_carried 29 = .ok (.aload_n 0, 1) := by decide +kernel
theorem d_M_carried_30 : decode b_M_carried 30 = .ok (.getfield 51, 3) := by decide +kernel
theorem d_M_carried_33 : decode b_M_carried 33 = .ok (.ifCond .ne 7, 3) := by decide +kernel
theorem d_M_carried_36 : decode b_M_carried 36 = .ok (.iconst 2, 1) := by decide +kernel
theorem d_M_carried_37 : decode b_M_carried 37 = .ok (.goto 4, 3) := by decide +kernel
theorem d_M_carried_40 : decode b_M_carried 40 = .ok (.iconst 0, 1) := by decide +kernel
theorem d_M_carried_41 : decode b_M_carried 41 = .ok (.putfield 47, 3) := by decide +kernel
theorem d_M_carried_44 : decode b_M_carried 44 = .ok (.aload_n 0, 1) := by decide +kernel
theorem d_M_carried_45 : decode b_M_carried 45 = .ok (.getfield 47, 3) := by decide +kernel
theorem d_M_carried_48 : decode b_M_carried 48 = .ok (.ifCond .le 7, 3) := by decide +kernel
theorem d_M_carried_51 : decode b_M_carried 51 = .ok (.lconst 0, 1) := by decide +kernel
theorem d_M_carried_52 : decode b_M_carried 52 = .ok (.goto 9, 3) := by decide +kernel
theorem d_M_carried_55 : decode b_M_carried 55 = .ok (.aload_n 0, 1) := by decide +kernel
theorem d_M_carried_56 : decode b_M_carried 56 = .ok (.iload_n 1, 1) := by decide +kernel
theorem d_M_carried_57 : decode b_M_carried 57 = .ok (.iload_n 2, 1) := by decide +kernel
theorem d_M_carried_58 : decode b_M_carried 58 = .ok (.invokevirtual 115, 3) := by decide +kernel
theorem d_M_carried_61 : decode b_M_carried 61 = .ok (.lreturn, 1) := by decide +kernel
theorem d_M_cheapest_0 : decode b_M_cheapest 0 = .ok (.aload_n 0, 1) := by decide +kernel
theorem d_M_cheapest_1 : decode b_M_cheapest 1 = .ok (.iload_n 1, 1) := by decide +kernel
theorem d_M_cheapest_2 : decode b_M_cheapest 2 = .ok (.ifCond .ge 7, 3) := by decide +kernel
theorem d_M_cheapest_5 : decode b_M_cheapest 5 = .ok (.iconst 1, 1) := by decide +kernel
theorem d_M_cheapest_6 : decode b_M_cheapest 6 = .ok (.goto 15, 3) := by decide +kernel
theorem d_M_cheapest_9 : decode b_M_cheapest 9 = .ok (.aload_n 0, 1) := by decide +kernel
theorem d_M_cheapest_10 : decode b_M_cheapest 10 = .ok (.getfield 51, 3) := by decide +kernel
theorem d_M_cheapest_13 : decode b_M_cheapest 13 = .ok (.ifCond .ne 7, 3) := by decide +kernel
theorem d_M_cheapest_16 : decode b_M_cheapest 16 = .ok (.iconst 2, 1) := by decide +kernel
theorem d_M_cheapest_17 : decode b_M_cheapest 17 = .ok (.goto 4, 3) := by decide +kernel
theorem d_M_cheapest_20 : decode b_M_cheapest 20 = .ok (.iconst 0, 1) := by decide +kernel
theorem d_M_cheapest_21 : decode b_M_cheapest 21 = .ok (.putfield 47, 3) := by decide +kernel
theorem d_M_cheapest_24 : decode b_M_cheapest 24 = .ok (.iconst (-1), 1) := by decide +kernel
theorem d_M_cheapest_25 : decode b_M_cheapest 25 = .ok (.istore_n 2, 1) := by decide +kernel
theorem d_M_cheapest_26 : decode b_M_cheapest 26 = .ok (.iconst 0, 1) := by decide +kernel
theorem d_M_cheapest_27 : decode b_M_cheapest 27 = .ok (.istore_n 3, 1) := by decide +kernel
theorem d_M_cheapest_28 : decode b_M_cheapest 28 = .ok (.iconst 1, 1) := by decide +kernel
theorem d_M_cheapest_29 : decode b_M_cheapest 29 = .ok (.istore 4, 2) := by decide +kernel
theorem d_M_cheapest_31 : decode b_M_cheapest 31 = .ok (.iload 4, 2) := by decide +kernel
theorem d_M_cheapest_33 : decode b_M_cheapest 33 = .ok (.bipush 6, 2) := by decide +kernel
theorem d_M_cheapest_35 : decode b_M_cheapest 35 = .ok (.if_icmp .gt 99, 3) := by decide +kernel
theorem d_M_cheapest_38 : decode b_M_cheapest 38 = .ok (.aload_n 0, 1) := by decide +kernel
theorem d_M_cheapest_39 : decode b_M_cheapest 39 = .ok (.getfield 47, 3) := by decide +kernel
theorem d_M_cheapest_42 : decode b_M_cheapest 42 = .ok (.ifCond .ne 92, 3) := by decide +kernel
theorem d_M_cheapest_45 : decode b_M_cheapest 45 = .ok (.iconst 0, 1) := by decide +kernel
theorem d_M_cheapest_46 : decode b_M_cheapest 46 = .ok (.istore 5, 2) := by decide +kernel
theorem d_M_cheapest_48 : decode b_M_cheapest 48 = .ok (.iload 5, 2) := by decide +kernel
theorem d_M_cheapest_50 : decode b_M_cheapest 50 = .ok (.aload_n 0, 1) := by decide +kernel
theorem d_M_cheapest_51 : decode b_M_cheapest 51 = .ok (.getfield 67, 3) := by decide +kernel
theorem d_M_cheapest_54 : decode b_M_cheapest 54 = .ok (.if_icmp .ge 74, 3) := by decide +kernel
theorem d_M_cheapest_57 : decode b_M_cheapest 57 = .ok (.iload_n 2, 1) := by decide +kernel
theorem d_M_cheapest_58 : decode b_M_cheapest 58 = .ok (.iconst (-1), 1) := by decide +kernel
theorem d_M_cheapest_59 : decode b_M_cheapest 59 = .ok (.if_icmp .eq 17, 3) := by decide +kernel
theorem d_M_cheapest_62 : decode b_M_cheapest 62 = .ok (.iload 4, 2) := by decide +kernel
theorem d_M_cheapest_64 : decode b_M_cheapest 64 = .ok (.aload_n 0, 1) := by decide +kernel
theorem d_M_cheapest_65 : decode b_M_cheapest 65 = .ok (.getfield 28, 3) := by decide +kernel
theorem d_M_cheapest_68 : decode b_M_cheapest 68 = .ok (.iload 5, 2) := by decide +kernel
theorem d_M_cheapest_70 : decode b_M_cheapest 70 = .ok (.iaload, 1) := by decide +kernel
theorem d_M_cheapest_71 : decode b_M_cheapest 71 = .ok (.imul, 1) := by decide +kernel
theorem d_M_cheapest_72 : decode b_M_cheapest 72 = .ok (.iload_n 3, 1) := by decide +kernel
theorem d_M_cheapest_73 : decode b_M_cheapest 73 = .ok (.if_icmp .ge 7, 3) := by decide +kernel
theorem d_M_cheapest_76 : decode b_M_cheapest 76 = .ok (.iconst 1, 1) := by decide +kernel
theorem d_M_cheapest_77 : decode b_M_cheapest 77 = .ok (.goto 4, 3) := by decide +kernel
theorem d_M_cheapest_80 : decode b_M_cheapest 80 = .ok (.iconst 0, 1) := by decide +kernel
theorem d_M_cheapest_81 : decode b_M_cheapest 81 = .ok (.istore 6, 2) := by decide +kernel
theorem d_M_cheapest_83 : decode b_M_cheapest 83 = .ok (.iload 6, 2) := by decide +kernel
theorem d_M_cheapest_85 : decode b_M_cheapest 85 = .ok (.ifCond .eq 37, 3) := by decide +kernel
theorem d_M_cheapest_88 : decode b_M_cheapest 88 = .ok (.aload_n 0, 1) := by decide +kernel
theorem d_M_cheapest_89 : decode b_M_cheapest 89 = .ok (.iload 4, 2) := by decide +kernel
theorem d_M_cheapest_91 : decode b_M_cheapest 91 = .ok (.iload 5, 2) := by decide +kernel
theorem d_M_cheapest_93 : decode b_M_cheapest 93 = .ok (.invokevirtual 115, 3) := by decide +kernel
theorem d_M_cheapest_96 : decode b_M_cheapest 96 = .ok (.iload_n 1, 1) := by decide +kernel
theorem d_M_cheapest_97 : decode b_M_cheapest 97 = .ok (.i2l, 1) := by decide +kernel
theorem d_M_cheapest_98 : decode b_M_cheapest 98 = .ok (.lcmp, 1) := by decide +kernel
theorem d_M_cheapest_99 : decode b_M_cheapest 99 = .ok (.ifCond .lt 23, 3) := by decide +kernel
theorem d_M_cheapest_102 : decode b_M_cheapest 102 = .ok (.bipush 10, 2) := by decide +kernel
theorem d_M_cheapest_104 : decode b_M_cheapest 104 = .ok (.iload 5, 2) := by decide +kernel
theorem d_M_cheapest_106 : decode b_M_cheapest 106 = .ok (.imul, 1) := by decide +kernel
theorem d_M_cheapest_107 : decode b_M_cheapest 107 = .ok (.iload 4, 2) := by decide +kernel
theorem d_M_cheapest_109 : decode b_M_cheapest 109 = .ok (.iadd, 1) := by decide +kernel
theorem d_M_cheapest_110 : decode b_M_cheapest 110 = .ok (.istore_n 2, 1) := by decide +kernel
theorem d_M_cheapest_111 : decode b_M_cheapest 111 = .ok (.iload 4, 2) := by decide +kernel
theorem d_M_cheapest_113 : decode b_M_cheapest 113 = .ok (.aload_n 0, 1) := by decide +kernel
theorem d_M_cheapest_114 : decode b_M_cheapest 114 = .ok (.getfield 28, 3) := by decide +kernel
theorem d_M_cheapest_117 : decode b_M_cheapest 117 = .ok (.iload 5, 2) := by decide +kernel
theorem d_M_cheapest_119 : decode b_M_cheapest 119 = .ok (.iaload, 1) := by decide +kernel
theorem d_M_cheapest_120 : decode b_M_cheapest 120 = .ok (.imul, 1) := by decide +kernel
theorem d_M_cheapest_121 : decode b_M_cheapest 121 = .ok (.istore_n 3, 1) := by decide +kernel
theorem d_M_cheapest_122 : decode b_M_cheapest 122 = .ok (.iinc 5 1, 3) := by decide +kernel
theorem d_M_cheapest_125 : decode b_M_cheapest 125 = .ok (.goto (-77), 3) := by decide +kernel
theorem d_M_cheapest_128 : decode b_M_cheapest 128 = .ok (.iinc 4 1, 3) := by decide +kernel
theorem d_M_cheapest_131 : decode b_M_cheapest 131 = .ok (.goto (-100), 3) := by decide +kernel
theorem d_M_cheapest_134 : decode b_M_cheapest 134 = .ok (.aload_n 0, 1) := by decide +kernel
theorem d_M_cheapest_135 : decode b_M_cheapest 135 = .ok (.getfield 47, 3) := by decide +kernel
theorem d_M_cheapest_138 : decode b_M_cheapest 138 = .ok (.ifCond .le 7, 3) := by decide +kernel
theorem d_M_cheapest_141 : decode b_M_cheapest 141 = .ok (.iconst 0, 1) := by decide +kernel
theorem d_M_cheapest_142 : decode b_M_cheapest 142 = .ok (.goto 4, 3) := by decide +kernel
theorem d_M_cheapest_145 : decode b_M_cheapest 145 = .ok (.iload_n 2, 1) := by decide +kernel
theorem d_M_cheapest_146 : decode b_M_cheapest 146 = .ok (.ireturn, 1) := by decide +kernel
theorem d_M_longest_0 : decode b_M_longest 0 = .ok (.iconst (-1), 1) := by decide +kernel
theorem d_M_longest_1 : decode b_M_longest 1 = .ok (.istore_n 2, 1) := by decide +kernel
theorem d_M_longest_2 : decode b_M_longest 2 = .ok (.iconst 1, 1) := by decide +kernel
theorem d_M_longest_3 : decode b_M_longest 3 = .ok (.istore_n 3, 1) := by decide +kernel
theorem d_M_longest_4 : decode b_M_longest 4 = .ok (.iconst 0, 1) := by decide +kernel
theorem d_M_longest_5 : decode b_M_longest 5 = .ok (.istore 4, 2) := by decide +kernel
theorem d_M_longest_7 : decode b_M_longest 7 = .ok (.iload 4, 2) := by decide +kernel
theorem d_M_longest_9 : decode b_M_longest 9 = .ok (.iload_n 1, 1) := by decide +kernel
theorem d_M_longest_10 : decode b_M_longest 10 = .ok (.if_icmp .ge 73, 3) := by decide +kernel
theorem d_M_longest_13 : decode b_M_longest 13 = .ok (.bipush 13, 2) := by decide +kernel
theorem d_M_longest_15 : decode b_M_longest 15 = .ok (.iload_n 3, 1) := by decide +kernel
theorem d_M_longest_16 : decode b_M_longest 16 = .ok (.imul, 1) := by decide +kernel
theorem d_M_longest_17 : decode b_M_longest 17 = .ok (.aload_n 0, 1) := by decide +kernel
theorem d_M_longest_18 : decode b_M_longest 18 = .ok (.getfield 38, 3) := by decide +kernel
theorem d_M_longest_21 : decode b_M_longest 21 = .ok (.iload 4, 2) := by decide +kernel
theorem d_M_longest_23 : decode b_M_longest 23 = .ok (.iaload, 1) := by decide +kernel
theorem d_M_longest_24 : decode b_M_longest 24 = .ok (.iadd, 1) := by decide +kernel
theorem d_M_longest_25 : decode b_M_longest 25 = .ok (.istore 5, 2) := by decide +kernel
theorem d_M_longest_27 : decode b_M_longest 27 = .ok (.iload_n 2, 1) := by decide +kernel
theorem d_M_longest_28 : decode b_M_longest 28 = .ok (.iconst (-1), 1) := by decide +kernel
theorem d_M_longest_29 : decode b_M_longest 29 = .ok (.if_icmp .eq 35, 3) := by decide +kernel
theorem d_M_longest_32 : decode b_M_longest 32 = .ok (.aload_n 0, 1) := by decide +kernel
theorem d_M_longest_33 : decode b_M_longest 33 = .ok (.getfield 31, 3) := by decide +kernel
theorem d_M_longest_36 : decode b_M_longest 36 = .ok (.iload 5, 2) := by decide +kernel
theorem d_M_longest_38 : decode b_M_longest 38 = .ok (.laload, 1) := by decide +kernel
theorem d_M_longest_39 : decode b_M_longest 39 = .ok (.aload_n 0, 1) := by decide +kernel
theorem d_M_longest_40 : decode b_M_longest 40 = .ok (.getfield 35, 3) := by decide +kernel
theorem d_M_longest_43 : decode b_M_longest 43 = .ok (.iload 5, 2) := by decide +kernel
theorem d_M_longest_45 : decode b_M_longest 45 = .ok (.laload, 1) := by decide +kernel
theorem d_M_longest_46 : decode b_M_longest 46 = .ok (.aload_n 0, 1) := by decide +kernel
theorem d_M_longest_47 : decode b_M_longest 47 = .ok (.getfield 31, 3) := by decide +kernel
theorem d_M_longest_50 : decode b_M_longest 50 = .ok (.iload_n 2, 1) := by decide +kernel
theorem d_M_longest_51 : decode b_M_longest 51 = .ok (.laload, 1) := by decide +kernel
theorem d_M_longest_52 : decode b_M_longest 52 = .ok (.aload_n 0, 1) := by decide +kernel
theorem d_M_longest_53 : decode b_M_longest 53 = .ok (.getfield 35, 3) := by decide +kernel
theorem d_M_longest_56 : decode b_M_longest 56 = .ok (.iload_n 2, 1) := by decide +kernel
theorem d_M_longest_57 : decode b_M_longest 57 = .ok (.laload, 1) := by decide +kernel
theorem d_M_longest_58 : decode b_M_longest 58 = .ok (.invokestatic 109, 3) := by decide +kernel
theorem d_M_longest_61 : decode b_M_longest 61 = .ok (.ifCond .le 6, 3) := by decide +kernel
theorem d_M_longest_64 : decode b_M_longest 64 = .ok (.iload 5, 2) := by decide +kernel
theorem d_M_longest_66 : decode b_M_longest 66 = .ok (.istore_n 2, 1) := by decide +kernel
theorem d_M_longest_67 : decode b_M_longest 67 = .ok (.aload_n 0, 1) := by decide +kernel
theorem d_M_longest_68 : decode b_M_longest 68 = .ok (.getfield 38, 3) := by decide +kernel
theorem d_M_longest_71 : decode b_M_longest 71 = .ok (.iload 4, 2) := by decide +kernel
theorem d_M_longest_73 : decode b_M_longest 73 = .ok (.iaload, 1) := by decide +kernel
theorem d_M_longest_74 : decode b_M_longest 74 = .ok (.iconst 1, 1) := by decide +kernel
theorem d_M_longest_75 : decode b_M_longest 75 = .ok (.iadd, 1) := by decide +kernel
theorem d_M_longest_76 : decode b_M_longest 76 = .ok (.istore_n 3, 1) := by decide +kernel
theorem d_M_longest_77 : decode b_M_longest 77 = .ok (.iinc 4 1, 3) := by decide +kernel
theorem d_M_longest_80 : decode b_M_longest 80 = .ok (.goto (-73), 3) := by decide +kernel
theorem d_M_longest_83 : decode b_M_longest 83 = .ok (.iload_n 2, 1) := by decide +kernel
theorem d_M_longest_84 : decode b_M_longest 84 = .ok (.ireturn, 1) := by decide +kernel
theorem d_M_nextEnds_0 : decode b_M_nextEnds 0 = .ok (.iload_n 1, 1) := by decide +kernel
theorem d_M_nextEnds_1 : decode b_M_nextEnds 1 = .ok (.iconst 2, 1) := by decide +kernel
theorem d_M_nextEnds_2 : decode b_M_nextEnds 2 = .ok (.isub, 1) := by decide +kernel
theorem d_M_nextEnds_3 : decode b_M_nextEnds 3 = .ok (.istore_n 2, 1) := by decide +kernel
theorem d_M_nextEnds_4 : decode b_M_nextEnds 4 = .ok (.iload_n 2, 1) := by decide +kernel
theorem d_M_nextEnds_5 : decode b_M_nextEnds 5 = .ok (.ifCond .lt 28, 3) := by decide +kernel
theorem d_M_nextEnds_8 : decode b_M_nextEnds 8 = .ok (.aload_n 0, 1) := by decide +kernel
theorem d_M_nextEnds_9 : decode b_M_nextEnds 9 = .ok (.getfield 38, 3) := by decide +kernel
theorem d_M_nextEnds_12 : decode b_M_nextEnds 12 = .ok (.iload_n 2, 1) := by decide +kernel
theorem d_M_nextEnds_13 : decode b_M_nextEnds 13 = .ok (.iaload, 1) := by decide +kernel
theorem d_M_nextEnds_14 : decode b_M_nextEnds 14 = .ok (.aload_n 0, 1) := by decide +kernel
theorem d_M_nextEnds_15 : decode b_M_nextEnds 15 = .ok (.getfield 51, 3) := by decide +kernel
theorem d_M_nextEnds_18 : decode b_M_nextEnds 18 = .ok (.iload_n 1, 1) := by decide +kernel
theorem d_M_nextEnds_19 : decode b_M_nextEnds 19 = .ok (.iconst 1, 1) := by decide +kernel
theorem d_M_nextEnds_20 : decode b_M_nextEnds 20 = .ok (.isub, 1) := by decide +kernel
theorem d_M_nextEnds_21 : decode b_M_nextEnds 21 = .ok (.iload_n 2, 1) := by decide +kernel
theorem d_M_nextEnds_22 : decode b_M_nextEnds 22 = .ok (.isub, 1) := by decide +kernel
theorem d_M_nextEnds_23 : decode b_M_nextEnds 23 = .ok (.isub, 1) := by decide +kernel
theorem d_M_nextEnds_24 : decode b_M_nextEnds 24 = .ok (.if_icmp .ne 9, 3) := by decide +kernel
theorem d_M_nextEnds_27 : decode b_M_nextEnds 27 = .ok (.iinc 2 (-1), 3) := by decide +kernel
theorem d_M_nextEnds_30 : decode b_M_nextEnds 30 = .ok (.goto (-26), 3) := by decide +kernel
theorem d_M_nextEnds_33 : decode b_M_nextEnds 33 = .ok (.iload_n 2, 1) := by decide +kernel
theorem d_M_nextEnds_34 : decode b_M_nextEnds 34 = .ok (.ifCond .ge 5, 3) := by decide +kernel
theorem d_M_nextEnds_37 : decode b_M_nextEnds 37 = .ok (.iconst 0, 1) := by decide +kernel
theorem d_M_nextEnds_38 : decode b_M_nextEnds 38 = .ok (.ireturn, 1) := by decide +kernel
theorem d_M_nextEnds_39 : decode b_M_nextEnds 39 = .ok (.aload_n 0, 1) := by decide +kernel
theorem d_M_nextEnds_40 : decode b_M_nextEnds 40 = .ok (.getfield 38, 3) := by decide +kernel
theorem d_M_nextEnds_43 : decode b_M_nextEnds 43 = .ok (.iload_n 2, 1) := by decide +kernel
theorem d_M_nextEnds_44 : decode b_M_nextEnds 44 = .ok (.dup2, 1) := by decide +kernel
theorem d_M_nextEnds_45 : decode b_M_nextEnds 45 = .ok (.iaload, 1) := by decide +kernel
theorem d_M_nextEnds_46 : decode b_M_nextEnds 46 = .ok (.iconst 1, 1) := by decide +kernel
theorem d_M_nextEnds_47 : decode b_M_nextEnds 47 = .ok (.iadd, 1) := by decide +kernel
theorem d_M_nextEnds_48 : decode b_M_nextEnds 48 = .ok (.iastore, 1) := by decide +kernel
theorem d_M_nextEnds_49 : decode b_M_nextEnds 49 = .ok (.iload_n 2, 1) := by decide +kernel
theorem d_M_nextEnds_50 : decode b_M_nextEnds 50 = .ok (.iconst 1, 1) := by decide +kernel
theorem d_M_nextEnds_51 : decode b_M_nextEnds 51 = .ok (.iadd, 1) := by decide +kernel
theorem d_M_nextEnds_52 : decode b_M_nextEnds 52 = .ok (.istore_n 3, 1) := by decide +kernel
theorem d_M_nextEnds_53 : decode b_M_nextEnds 53 = .ok (.iload_n 3, 1) := by decide +kernel
theorem d_M_nextEnds_54 : decode b_M_nextEnds 54 = .ok (.iload_n 1, 1) := by decide +kernel
theorem d_M_nextEnds_55 : decode b_M_nextEnds 55 = .ok (.iconst 1, 1) := by decide +kernel
theorem d_M_nextEnds_56 : decode b_M_nextEnds 56 = .ok (.isub, 1) := by decide +kernel
theorem d_M_nextEnds_57 : decode b_M_nextEnds 57 = .ok (.if_icmp .ge 25, 3) := by decide +kernel
theorem d_M_nextEnds_60 : decode b_M_nextEnds 60 = .ok (.aload_n 0, 1) := by decide +kernel
theorem d_M_nextEnds_61 : decode b_M_nextEnds 61 = .ok (.getfield 38, 3) := by decide +kernel
theorem d_M_nextEnds_64 : decode b_M_nextEnds 64 = .ok (.iload_n 3, 1) := by decide +kernel
theorem d_M_nextEnds_65 : decode b_M_nextEnds 65 = .ok (.aload_n 0, 1) := by decide +kernel
theorem d_M_nextEnds_66 : decode b_M_nextEnds 66 = .ok (.getfield 38, 3) := by decide +kernel
theorem d_M_nextEnds_69 : decode b_M_nextEnds 69 = .ok (.iload_n 3, 1) := by decide +kernel
theorem d_M_nextEnds_70 : decode b_M_nextEnds 70 = .ok (.iconst 1, 1) := by decide +kernel
theorem d_M_nextEnds_71 : decode b_M_nextEnds 71 = .ok (.isub, 1) := by decide +kernel
theorem d_M_nextEnds_72 : decode b_M_nextEnds 72 = .ok (.iaload, 1) := by decide +kernel
theorem d_M_nextEnds_73 : decode b_M_nextEnds 73 = .ok (.iconst 1, 1) := by decide +kernel
theorem d_M_nextEnds_74 : decode b_M_nextEnds 74 = .ok (.iadd, 1) := by decide +kernel
theorem d_M_nextEnds_75 : decode b_M_nextEnds 75 = .ok (.iastore, 1) := by decide +kernel
theorem d_M_nextEnds_76 : decode b_M_nextEnds 76 = .ok (.iinc 3 1, 3) := by decide +kernel
theorem d_M_nextEnds_79 : decode b_M_nextEnds 79 = .ok (.goto (-26), 3) := by decide +kernel
theorem d_M_nextEnds_82 : decode b_M_nextEnds 82 = .ok (.iconst 1, 1) := by decide +kernel
theorem d_M_nextEnds_83 : decode b_M_nextEnds 83 = .ok (.ireturn, 1) := by decide +kernel
theorem d_M_split_0 : decode b_M_split 0 = .ok (.aload_n 0, 1) := by decide +kernel
theorem d_M_split_1 : decode b_M_split 1 = .ok (.iload_n 1, 1) := by decide +kernel
theorem d_M_split_2 : decode b_M_split 2 = .ok (.iconst 0, 1) := by decide +kernel
theorem d_M_split_3 : decode b_M_split 3 = .ok (.aload_n 0, 1) := by decide +kernel
theorem d_M_split_4 : decode b_M_split 4 = .ok (.getfield 67, 3) := by decide +kernel
theorem d_M_split_7 : decode b_M_split 7 = .ok (.iconst 1, 1) := by decide +kernel
theorem d_M_split_8 : decode b_M_split 8 = .ok (.isub, 1) := by decide +kernel
theorem d_M_split_9 : decode b_M_split 9 = .ok (.invokestatic 54, 3) := by decide +kernel
theorem d_M_split_12 : decode b_M_split 12 = .ok (.ifCond .eq 23, 3) := by decide +kernel
theorem d_M_split_15 : decode b_M_split 15 = .ok (.iload_n 2, 1) := by decide +kernel
theorem d_M_split_16 : decode b_M_split 16 = .ok (.iconst 1, 1) := by decide +kernel
theorem d_M_split_17 : decode b_M_split 17 = .ok (.iconst 4, 1) := by decide +kernel
theorem d_M_split_18 : decode b_M_split 18 = .ok (.invokestatic 54, 3) := by decide +kernel
theorem d_M_split_21 : decode b_M_split 21 = .ok (.ifCond .eq 14, 3) := by decide +kernel
theorem d_M_split_24 : decode b_M_split 24 = .ok (.iload_n 3, 1) := by decide +kernel
theorem d_M_split_25 : decode b_M_split 25 = .ok (.iconst 0, 1) := by decide +kernel
theorem d_M_split_26 : decode b_M_split 26 = .ok (.iload_n 2, 1) := by decide +kernel
theorem d_M_split_27 : decode b_M_split 27 = .ok (.iconst 1, 1) := by decide +kernel
theorem d_M_split_28 : decode b_M_split 28 = .ok (.isub, 1) := by decide +kernel
theorem d_M_split_29 : decode b_M_split 29 = .ok (.invokestatic 54, 3) := by decide +kernel
theorem d_M_split_32 : decode b_M_split 32 = .ok (.ifCond .ne 7, 3) := by decide +kernel
theorem d_M_split_35 : decode b_M_split 35 = .ok (.iconst 1, 1) := by decide +kernel
theorem d_M_split_36 : decode b_M_split 36 = .ok (.goto 16, 3) := by decide +kernel
theorem d_M_split_39 : decode b_M_split 39 = .ok (.aload_n 0, 1) := by decide +kernel
theorem d_M_split_40 : decode b_M_split 40 = .ok (.getfield 51, 3) := by decide +kernel
theorem d_M_split_43 : decode b_M_split 43 = .ok (.iload_n 2, 1) := by decide +kernel
theorem d_M_split_44 : decode b_M_split 44 = .ok (.if_icmp .ge 7, 3) := by decide +kernel
theorem d_M_split_47 : decode b_M_split 47 = .ok (.iconst 2, 1) := by decide +kernel
theorem d_M_split_48 : decode b_M_split 48 = .ok (.goto 4, 3) := by decide +kernel
theorem d_M_split_51 : decode b_M_split 51 = .ok (.iconst 0, 1) := by decide +kernel
theorem d_M_split_52 : decode b_M_split 52 = .ok (.putfield 47, 3) := by decide +kernel
theorem d_M_split_55 : decode b_M_split 55 = .ok (.aload_n 0, 1) := by decide +kernel
theorem d_M_split_56 : decode b_M_split 56 = .ok (.getfield 47, 3) := by decide +kernel
theorem d_M_split_59 : decode b_M_split 59 = .ok (.ifCond .le 5, 3) := by decide +kernel
theorem d_M_split_62 : decode b_M_split 62 = .ok (.iconst 0, 1) := by decide +kernel
theorem d_M_split_63 : decode b_M_split 63 = .ok (.ireturn, 1) := by decide +kernel
theorem d_M_split_64 : decode b_M_split 64 = .ok (.iconst 1, 1) := by decide +kernel
theorem d_M_split_65 : decode b_M_split 65 = .ok (.istore 4, 2) := by decide +kernel
theorem d_M_split_67 : decode b_M_split 67 = .ok (.iload 4, 2) := by decide +kernel
theorem d_M_split_69 : decode b_M_split 69 = .ok (.aload_n 0, 1) := by decide +kernel
theorem d_M_split_70 : decode b_M_split 70 = .ok (.getfield 51, 3) := by decide +kernel
theorem d_M_split_73 : decode b_M_split 73 = .ok (.if_icmp .gt 71, 3) := by decide +kernel
theorem d_M_split_76 : decode b_M_split 76 = .ok (.iload 4, 2) := by decide +kernel
theorem d_M_split_78 : decode b_M_split 78 = .ok (.istore 5, 2) := by decide +kernel
theorem d_M_split_80 : decode b_M_split 80 = .ok (.iload 5, 2) := by decide +kernel
theorem d_M_split_82 : decode b_M_split 82 = .ok (.aload_n 0, 1) := by decide +kernel
theorem d_M_split_83 : decode b_M_split 83 = .ok (.getfield 51, 3) := by decide +kernel
theorem d_M_split_86 : decode b_M_split 86 = .ok (.if_icmp .gt 52, 3) := by decide +kernel
theorem d_M_split_89 : decode b_M_split 89 = .ok (.aload_n 0, 1) := by decide +kernel
theorem d_M_split_90 : decode b_M_split 90 = .ok (.iload_n 1, 1) := by decide +kernel
theorem d_M_split_91 : decode b_M_split 91 = .ok (.iload 4, 2) := by decide +kernel
theorem d_M_split_93 : decode b_M_split 93 = .ok (.iload 5, 2) := by decide +kernel
theorem d_M_split_95 : decode b_M_split 95 = .ok (.invokevirtual 105, 3) := by decide +kernel
theorem d_M_split_98 : decode b_M_split 98 = .ok (.aload_n 0, 1) := by decide +kernel
theorem d_M_split_99 : decode b_M_split 99 = .ok (.getfield 31, 3) := by decide +kernel
theorem d_M_split_102 : decode b_M_split 102 = .ok (.bipush 13, 2) := by decide +kernel
theorem d_M_split_104 : decode b_M_split 104 = .ok (.iload 4, 2) := by decide +kernel
theorem d_M_split_106 : decode b_M_split 106 = .ok (.imul, 1) := by decide +kernel
theorem d_M_split_107 : decode b_M_split 107 = .ok (.iload 5, 2) := by decide +kernel
theorem d_M_split_109 : decode b_M_split 109 = .ok (.iadd, 1) := by decide +kernel
theorem d_M_split_110 : decode b_M_split 110 = .ok (.aload_n 0, 1) := by decide +kernel
theorem d_M_split_111 : decode b_M_split 111 = .ok (.getfield 78, 3) := by decide +kernel
theorem d_M_split_114 : decode b_M_split 114 = .ok (.lastore, 1) := by decide +kernel
theorem d_M_split_115 : decode b_M_split 115 = .ok (.aload_n 0, 1) := by decide +kernel
theorem d_M_split_116 : decode b_M_split 116 = .ok (.getfield 35, 3) := by decide +kernel
theorem d_M_split_119 : decode b_M_split 119 = .ok (.bipush 13, 2) := by decide +kernel
theorem d_M_split_121 : decode b_M_split 121 = .ok (.iload 4, 2) := by decide +kernel
theorem d_M_split_123 : decode b_M_split 123 = .ok (.imul, 1) := by decide +kernel
theorem d_M_split_124 : decode b_M_split 124 = .ok (.iload 5, 2) := by decide +kernel
theorem d_M_split_126 : decode b_M_split 126 = .ok (.iadd, 1) := by decide +kernel
theorem d_M_split_127 : decode b_M_split 127 = .ok (.aload_n 0, 1) := by decide +kernel
theorem d_M_split_128 : decode b_M_split 128 = .ok (.getfield 82, 3) := by decide +kernel
theorem d_M_split_131 : decode b_M_split 131 = .ok (.lastore, 1) := by decide +kernel
theorem d_M_split_132 : decode b_M_split 132 = .ok (.iinc 5 1, 3) := by decide +kernel
theorem d_M_split_135 : decode b_M_split 135 = .ok (.goto (-55), 3) := by decide +kernel
theorem d_M_split_138 : decode b_M_split 138 = .ok (.iinc 4 1, 3) := by decide +kernel
theorem d_M_split_141 : decode b_M_split 141 = .ok (.goto (-74), 3) := by decide +kernel
theorem d_M_split_144 : decode b_M_split 144 = .ok (.iconst 0, 1) := by decide +kernel
theorem d_M_split_145 : decode b_M_split 145 = .ok (.istore 4, 2) := by decide +kernel
theorem d_M_split_147 : decode b_M_split 147 = .ok (.iload 4, 2) := by decide +kernel
theorem d_M_split_149 : decode b_M_split 149 = .ok (.iload_n 2, 1) := by decide +kernel
theorem d_M_split_150 : decode b_M_split 150 = .ok (.iconst 1, 1) := by decide +kernel
theorem d_M_split_151 : decode b_M_split 151 = .ok (.isub, 1) := by decide +kernel
theorem d_M_split_152 : decode b_M_split 152 = .ok (.if_icmp .ge 20, 3) := by decide +kernel
theorem d_M_split_155 : decode b_M_split 155 = .ok (.aload_n 0, 1) := by decide +kernel
theorem d_M_split_156 : decode b_M_split 156 = .ok (.getfield 38, 3) := by decide +kernel
theorem d_M_split_159 : decode b_M_split 159 = .ok (.iload 4, 2) := by decide +kernel
theorem d_M_split_161 : decode b_M_split 161 = .ok (.iload 4, 2) := by decide +kernel
theorem d_M_split_163 : decode b_M_split 163 = .ok (.iconst 1, 1) := by decide +kernel
theorem d_M_split_164 : decode b_M_split 164 = .ok (.iadd, 1) := by decide +kernel
theorem d_M_split_165 : decode b_M_split 165 = .ok (.iastore, 1) := by decide +kernel
theorem d_M_split_166 : decode b_M_split 166 = .ok (.iinc 4 1, 3) := by decide +kernel
theorem d_M_split_169 : decode b_M_split 169 = .ok (.goto (-22), 3) := by decide +kernel
theorem d_M_split_172 : decode b_M_split 172 = .ok (.aload_n 0, 1) := by decide +kernel
theorem d_M_split_173 : decode b_M_split 173 = .ok (.getfield 38, 3) := by decide +kernel
theorem d_M_split_176 : decode b_M_split 176 = .ok (.iload_n 2, 1) := by decide +kernel
theorem d_M_split_177 : decode b_M_split 177 = .ok (.iconst 1, 1) := by decide +kernel
theorem d_M_split_178 : decode b_M_split 178 = .ok (.isub, 1) := by decide +kernel
theorem d_M_split_179 : decode b_M_split 179 = .ok (.aload_n 0, 1) := by decide +kernel
theorem d_M_split_180 : decode b_M_split 180 = .ok (.getfield 51, 3) := by decide +kernel
theorem d_M_split_183 : decode b_M_split 183 = .ok (.iastore, 1) := by decide +kernel
theorem d_M_split_184 : decode b_M_split 184 = .ok (.iconst (-1), 1) := by decide +kernel
theorem d_M_split_185 : decode b_M_split 185 = .ok (.istore 4, 2) := by decide +kernel
theorem d_M_split_187 : decode b_M_split 187 = .ok (.iconst 1, 1) := by decide +kernel
theorem d_M_split_188 : decode b_M_split 188 = .ok (.istore 5, 2) := by decide +kernel
theorem d_M_split_190 : decode b_M_split 190 = .ok (.iload 5, 2) := by decide +kernel
theorem d_M_split_192 : decode b_M_split 192 = .ok (.ifCond .eq 93, 3) := by decide +kernel
theorem d_M_split_195 : decode b_M_split 195 = .ok (.aload_n 0, 1) := by decide +kernel
theorem d_M_split_196 : decode b_M_split 196 = .ok (.iload_n 2, 1) := by decide +kernel
theorem d_M_split_197 : decode b_M_split 197 = .ok (.invokevirtual 119, 3) := by decide +kernel
theorem d_M_split_200 : decode b_M_split 200 = .ok (.istore 6, 2) := by decide +kernel
theorem d_M_split_202 : decode b_M_split 202 = .ok (.iload 4, 2) := by decide +kernel
theorem d_M_split_204 : decode b_M_split 204 = .ok (.iconst (-1), 1) := by decide +kernel
theorem d_M_split_205 : decode b_M_split 205 = .ok (.if_icmp .eq 37, 3) := by decide +kernel
theorem d_M_split_208 : decode b_M_split 208 = .ok (.aload_n 0, 1) := by decide +kernel
theorem d_M_split_209 : decode b_M_split 209 = .ok (.getfield 31, 3) := by decide +kernel
theorem d_M_split_212 : decode b_M_split 212 = .ok (.iload 6, 2) := by decide +kernel
theorem d_M_split_214 : decode b_M_split 214 = .ok (.laload, 1) := by decide +kernel
theorem d_M_split_215 : decode b_M_split 215 = .ok (.aload_n 0, 1) := by decide +kernel
theorem d_M_split_216 : decode b_M_split 216 = .ok (.getfield 35, 3) := by decide +kernel
theorem d_M_split_219 : decode b_M_split 219 = .ok (.iload 6, 2) := by decide +kernel
theorem d_M_split_221 : decode b_M_split 221 = .ok (.laload, 1) := by decide +kernel
theorem d_M_split_222 : decode b_M_split 222 = .ok (.aload_n 0, 1) := by decide +kernel
theorem d_M_split_223 : decode b_M_split 223 = .ok (.getfield 31, 3) := by decide +kernel
theorem d_M_split_226 : decode b_M_split 226 = .ok (.iload 4, 2) := by decide +kernel
theorem d_M_split_228 : decode b_M_split 228 = .ok (.laload, 1) := by decide +kernel
theorem d_M_split_229 : decode b_M_split 229 = .ok (.aload_n 0, 1) := by decide +kernel
theorem d_M_split_230 : decode b_M_split 230 = .ok (.getfield 35, 3) := by decide +kernel
theorem d_M_split_233 : decode b_M_split 233 = .ok (.iload 4, 2) := by decide +kernel
theorem d_M_split_235 : decode b_M_split 235 = .ok (.laload, 1) := by decide +kernel
theorem d_M_split_236 : decode b_M_split 236 = .ok (.invokestatic 109, 3) := by decide +kernel
theorem d_M_split_239 : decode b_M_split 239 = .ok (.ifCond .ge 36, 3) := by decide +kernel
theorem d_M_split_242 : decode b_M_split 242 = .ok (.iload 6, 2) := by decide +kernel
theorem d_M_split_244 : decode b_M_split 244 = .ok (.istore 4, 2) := by decide +kernel
theorem d_M_split_246 : decode b_M_split 246 = .ok (.iconst 0, 1) := by decide +kernel
theorem d_M_split_247 : decode b_M_split 247 = .ok (.istore 7, 2) := by decide +kernel
theorem d_M_split_249 : decode b_M_split 249 = .ok (.iload 7, 2) := by decide +kernel
theorem d_M_split_251 : decode b_M_split 251 = .ok (.iload_n 2, 1) := by decide +kernel
theorem d_M_split_252 : decode b_M_split 252 = .ok (.if_icmp .ge 23, 3) := by decide +kernel
theorem d_M_split_255 : decode b_M_split 255 = .ok (.aload_n 0, 1) := by decide +kernel
theorem d_M_split_256 : decode b_M_split 256 = .ok (.getfield 41, 3) := by decide +kernel
theorem d_M_split_259 : decode b_M_split 259 = .ok (.iload 7, 2) := by decide +kernel
theorem d_M_split_261 : decode b_M_split 261 = .ok (.aload_n 0, 1) := by decide +kernel
theorem d_M_split_262 : decode b_M_split 262 = .ok (.getfield 38, 3) := by decide +kernel
theorem d_M_split_265 : decode b_M_split 265 = .ok (.iload 7, 2) := by decide +kernel
theorem d_M_split_267 : decode b_M_split 267 = .ok (.iaload, 1) := by decide +kernel
theorem d_M_split_268 : decode b_M_split 268 = .ok (.iastore, 1) := by decide +kernel
theorem d_M_split_269 : decode b_M_split 269 = .ok (.iinc 7 1, 3) := by decide +kernel
theorem d_M_split_272 : decode b_M_split 272 = .ok (.goto (-23), 3) := by decide +kernel
theorem d_M_split_275 : decode b_M_split 275 = .ok (.aload_n 0, 1) := by decide +kernel
theorem d_M_split_276 : decode b_M_split 276 = .ok (.iload_n 2, 1) := by decide +kernel
theorem d_M_split_277 : decode b_M_split 277 = .ok (.invokevirtual 123, 3) := by decide +kernel
theorem d_M_split_280 : decode b_M_split 280 = .ok (.istore 5, 2) := by decide +kernel
theorem d_M_split_282 : decode b_M_split 282 = .ok (.goto (-92), 3) := by decide +kernel
theorem d_M_split_285 : decode b_M_split 285 = .ok (.aload_n 0, 1) := by decide +kernel
theorem d_M_split_286 : decode b_M_split 286 = .ok (.getfield 41, 3) := by decide +kernel
theorem d_M_split_289 : decode b_M_split 289 = .ok (.iload_n 3, 1) := by decide +kernel
theorem d_M_split_290 : decode b_M_split 290 = .ok (.iaload, 1) := by decide +kernel
theorem d_M_split_291 : decode b_M_split 291 = .ok (.ireturn, 1) := by decide +kernel
theorem d_M_begin_0 : decode b_M_begin 0 = .ok (.iconst 0, 1) := by decide +kernel
theorem d_M_begin_1 : decode b_M_begin 1 = .ok (.istore_n 1, 1) := by decide +kernel
theorem d_M_begin_2 : decode b_M_begin 2 = .ok (.iload_n 1, 1) := by decide +kernel
theorem d_M_begin_3 : decode b_M_begin 3 = .ok (.bipush 12, 2) := by decide +kernel
theorem d_M_begin_5 : decode b_M_begin 5 = .ok (.if_icmp .gt 37, 3) := by decide +kernel
theorem d_M_begin_8 : decode b_M_begin 8 = .ok (.aload_n 0, 1) := by decide +kernel
theorem d_M_begin_9 : decode b_M_begin 9 = .ok (.getfield 44, 3) := by decide +kernel
theorem d_M_begin_12 : decode b_M_begin 12 = .ok (.iload_n 1, 1) := by decide +kernel
theorem d_M_begin_13 : decode b_M_begin 13 = .ok (.iload_n 1, 1) := by decide +kernel
theorem d_M_begin_14 : decode b_M_begin 14 = .ok (.aload_n 0, 1) := by decide +kernel
theorem d_M_begin_15 : decode b_M_begin 15 = .ok (.getfield 51, 3) := by decide +kernel
theorem d_M_begin_18 : decode b_M_begin 18 = .ok (.if_icmp .gt 16, 3) := by decide +kernel
theorem d_M_begin_21 : decode b_M_begin 21 = .ok (.iload_n 1, 1) := by decide +kernel
theorem d_M_begin_22 : decode b_M_begin 22 = .ok (.ifCond .le 12, 3) := by decide +kernel
theorem d_M_begin_25 : decode b_M_begin 25 = .ok (.aload_n 0, 1) := by decide +kernel
theorem d_M_begin_26 : decode b_M_begin 26 = .ok (.getfield 7, 3) := by decide +kernel
theorem d_M_begin_29 : decode b_M_begin 29 = .ok (.iload_n 1, 1) := by decide +kernel
theorem d_M_begin_30 : decode b_M_begin 30 = .ok (.iaload, 1) := by decide +kernel
theorem d_M_begin_31 : decode b_M_begin 31 = .ok (.goto 4, 3) := by decide +kernel
theorem d_M_begin_34 : decode b_M_begin 34 = .ok (.iconst 0, 1) := by decide +kernel
theorem d_M_begin_35 : decode b_M_begin 35 = .ok (.iastore, 1) := by decide +kernel
theorem d_M_begin_36 : decode b_M_begin 36 = .ok (.iinc 1 1, 3) := by decide +kernel
theorem d_M_begin_39 : decode b_M_begin 39 = .ok (.goto (-37), 3) := by decide +kernel
theorem d_M_begin_42 : decode b_M_begin 42 = .ok (.return_, 1) := by decide +kernel
theorem d_M_inside_0 : decode b_M_inside 0 = .ok (.iconst 0, 1) := by decide +kernel
theorem d_M_inside_1 : decode b_M_inside 1 = .ok (.istore_n 1, 1) := by decide +kernel
theorem d_M_inside_2 : decode b_M_inside 2 = .ok (.iconst 1, 1) := by decide +kernel
theorem d_M_inside_3 : decode b_M_inside 3 = .ok (.istore_n 2, 1) := by decide +kernel
theorem d_M_inside_4 : decode b_M_inside 4 = .ok (.iload_n 2, 1) := by decide +kernel
theorem d_M_inside_5 : decode b_M_inside 5 = .ok (.aload_n 0, 1) := by decide +kernel
theorem d_M_inside_6 : decode b_M_inside 6 = .ok (.getfield 51, 3) := by decide +kernel
theorem d_M_inside_9 : decode b_M_inside 9 = .ok (.if_icmp .gt 18, 3) := by decide +kernel
theorem d_M_inside_12 : decode b_M_inside 12 = .ok (.iload_n 1, 1) := by decide +kernel
theorem d_M_inside_13 : decode b_M_inside 13 = .ok (.aload_n 0, 1) := by decide +kernel
theorem d_M_inside_14 : decode b_M_inside 14 = .ok (.getfield 44, 3) := by decide +kernel
theorem d_M_inside_17 : decode b_M_inside 17 = .ok (.iload_n 2, 1) := by decide +kernel
theorem d_M_inside_18 : decode b_M_inside 18 = .ok (.iaload, 1) := by decide +kernel
theorem d_M_inside_19 : decode b_M_inside 19 = .ok (.iadd, 1) := by decide +kernel
theorem d_M_inside_20 : decode b_M_inside 20 = .ok (.istore_n 1, 1) := by decide +kernel
theorem d_M_inside_21 : decode b_M_inside 21 = .ok (.iinc 2 1, 3) := by decide +kernel
theorem d_M_inside_24 : decode b_M_inside 24 = .ok (.goto (-20), 3) := by decide +kernel
theorem d_M_inside_27 : decode b_M_inside 27 = .ok (.iload_n 1, 1) := by decide +kernel
theorem d_M_inside_28 : decode b_M_inside 28 = .ok (.ireturn, 1) := by decide +kernel
theorem d_M_second_0 : decode b_M_second 0 = .ok (.iconst 1, 1) := by decide +kernel
theorem d_M_second_1 : decode b_M_second 1 = .ok (.istore_n 2, 1) := by decide +kernel
theorem d_M_second_2 : decode b_M_second 2 = .ok (.iload_n 2, 1) := by decide +kernel
theorem d_M_second_3 : decode b_M_second 3 = .ok (.aload_n 0, 1) := by decide +kernel
theorem d_M_second_4 : decode b_M_second 4 = .ok (.getfield 51, 3) := by decide +kernel
theorem d_M_second_7 : decode b_M_second 7 = .ok (.if_icmp .gt 62, 3) := by decide +kernel
theorem d_M_second_10 : decode b_M_second 10 = .ok (.aload_n 0, 1) := by decide +kernel
theorem d_M_second_11 : decode b_M_second 11 = .ok (.getfield 44, 3) := by decide +kernel
theorem d_M_second_14 : decode b_M_second 14 = .ok (.iload_n 2, 1) := by decide +kernel
theorem d_M_second_15 : decode b_M_second 15 = .ok (.iaload, 1) := by decide +kernel
theorem d_M_second_16 : decode b_M_second 16 = .ok (.iload_n 1, 1) := by decide +kernel
theorem d_M_second_17 : decode b_M_second 17 = .ok (.if_icmp .ge 12, 3) := by decide +kernel
theorem d_M_second_20 : decode b_M_second 20 = .ok (.aload_n 0, 1) := by decide +kernel
theorem d_M_second_21 : decode b_M_second 21 = .ok (.getfield 44, 3) := by decide +kernel
theorem d_M_second_24 : decode b_M_second 24 = .ok (.iload_n 2, 1) := by decide +kernel
theorem d_M_second_25 : decode b_M_second 25 = .ok (.iaload, 1) := by decide +kernel
theorem d_M_second_26 : decode b_M_second 26 = .ok (.goto 4, 3) := by decide +kernel
theorem d_M_second_29 : decode b_M_second 29 = .ok (.iload_n 1, 1) := by decide +kernel
theorem d_M_second_30 : decode b_M_second 30 = .ok (.istore_n 3, 1) := by decide +kernel
theorem d_M_second_31 : decode b_M_second 31 = .ok (.aload_n 0, 1) := by decide +kernel
theorem d_M_second_32 : decode b_M_second 32 = .ok (.getfield 44, 3) := by decide +kernel
theorem d_M_second_35 : decode b_M_second 35 = .ok (.iload_n 2, 1) := by decide +kernel
theorem d_M_second_36 : decode b_M_second 36 = .ok (.aload_n 0, 1) := by decide +kernel
theorem d_M_second_37 : decode b_M_second 37 = .ok (.getfield 44, 3) := by decide +kernel
theorem d_M_second_40 : decode b_M_second 40 = .ok (.iload_n 2, 1) := by decide +kernel
theorem d_M_second_41 : decode b_M_second 41 = .ok (.iaload, 1) := by decide +kernel
theorem d_M_second_42 : decode b_M_second 42 = .ok (.iload_n 3, 1) := by decide +kernel
theorem d_M_second_43 : decode b_M_second 43 = .ok (.isub, 1) := by decide +kernel
theorem d_M_second_44 : decode b_M_second 44 = .ok (.iastore, 1) := by decide +kernel
theorem d_M_second_45 : decode b_M_second 45 = .ok (.aload_n 0, 1) := by decide +kernel
theorem d_M_second_46 : decode b_M_second 46 = .ok (.getfield 44, 3) := by decide +kernel
theorem d_M_second_49 : decode b_M_second 49 = .ok (.iload_n 2, 1) := by decide +kernel
theorem d_M_second_50 : decode b_M_second 50 = .ok (.iconst 1, 1) := by decide +kernel
theorem d_M_second_51 : decode b_M_second 51 = .ok (.isub, 1) := by decide +kernel
theorem d_M_second_52 : decode b_M_second 52 = .ok (.aload_n 0, 1) := by decide +kernel
theorem d_M_second_53 : decode b_M_second 53 = .ok (.getfield 44, 3) := by decide +kernel
theorem d_M_second_56 : decode b_M_second 56 = .ok (.iload_n 2, 1) := by decide +kernel
theorem d_M_second_57 : decode b_M_second 57 = .ok (.iconst 1, 1) := by decide +kernel
theorem d_M_second_58 : decode b_M_second 58 = .ok (.isub, 1) := by decide +kernel
theorem d_M_second_59 : decode b_M_second 59 = .ok (.iaload, 1) := by decide +kernel
theorem d_M_second_60 : decode b_M_second 60 = .ok (.iload_n 3, 1) := by decide +kernel
theorem d_M_second_61 : decode b_M_second 61 = .ok (.iadd, 1) := by decide +kernel
theorem d_M_second_62 : decode b_M_second 62 = .ok (.iastore, 1) := by decide +kernel
theorem d_M_second_63 : decode b_M_second 63 = .ok (.iinc 2 1, 3) := by decide +kernel
theorem d_M_second_66 : decode b_M_second 66 = .ok (.goto (-64), 3) := by decide +kernel
theorem d_M_second_69 : decode b_M_second 69 = .ok (.return_, 1) := by decide +kernel
theorem d_M_out_0 : decode b_M_out 0 = .ok (.aload_n 0, 1) := by decide +kernel
theorem d_M_out_1 : decode b_M_out 1 = .ok (.iload_n 1, 1) := by decide +kernel
theorem d_M_out_2 : decode b_M_out 2 = .ok (.iconst 1, 1) := by decide +kernel
theorem d_M_out_3 : decode b_M_out 3 = .ok (.bipush 50, 2) := by decide +kernel
theorem d_M_out_5 : decode b_M_out 5 = .ok (.invokestatic 54, 3) := by decide +kernel
theorem d_M_out_8 : decode b_M_out 8 = .ok (.ifCond .ne 7, 3) := by decide +kernel
theorem d_M_out_11 : decode b_M_out 11 = .ok (.iconst 1, 1) := by decide +kernel
theorem d_M_out_12 : decode b_M_out 12 = .ok (.goto 4, 3) := by decide +kernel
theorem d_M_out_15 : decode b_M_out 15 = .ok (.iconst 0, 1) := by decide +kernel
theorem d_M_out_16 : decode b_M_out 16 = .ok (.putfield 47, 3) := by decide +kernel
theorem d_M_out_19 : decode b_M_out 19 = .ok (.aload_n 0, 1) := by decide +kernel
theorem d_M_out_20 : decode b_M_out 20 = .ok (.getfield 47, 3) := by decide +kernel
theorem d_M_out_23 : decode b_M_out 23 = .ok (.ifCond .le 5, 3) := by decide +kernel
theorem d_M_out_26 : decode b_M_out 26 = .ok (.iconst 0, 1) := by decide +kernel
theorem d_M_out_27 : decode b_M_out 27 = .ok (.ireturn, 1) := by decide +kernel
theorem d_M_out_28 : decode b_M_out 28 = .ok (.aload_n 0, 1) := by decide +kernel
theorem d_M_out_29 : decode b_M_out 29 = .ok (.invokevirtual 126, 3) := by decide +kernel
theorem d_M_out_32 : decode b_M_out 32 = .ok (.iconst 0, 1) := by decide +kernel
theorem d_M_out_33 : decode b_M_out 33 = .ok (.istore_n 2, 1) := by decide +kernel
theorem d_M_out_34 : decode b_M_out 34 = .ok (.aload_n 0, 1) := by decide +kernel
theorem d_M_out_35 : decode b_M_out 35 = .ok (.invokevirtual 129, 3) := by decide +kernel
theorem d_M_out_38 : decode b_M_out 38 = .ok (.ifCond .le 14, 3) := by decide +kernel
theorem d_M_out_41 : decode b_M_out 41 = .ok (.aload_n 0, 1) := by decide +kernel
theorem d_M_out_42 : decode b_M_out 42 = .ok (.iload_n 1, 1) := by decide +kernel
theorem d_M_out_43 : decode b_M_out 43 = .ok (.invokevirtual 132, 3) := by decide +kernel
theorem d_M_out_46 : decode b_M_out 46 = .ok (.iinc 2 1, 3) := by decide +kernel
theorem d_M_out_49 : decode b_M_out 49 = .ok (.goto (-15), 3) := by decide +kernel
theorem d_M_out_52 : decode b_M_out 52 = .ok (.iload_n 2, 1) := by decide +kernel
theorem d_M_out_53 : decode b_M_out 53 = .ok (.ireturn, 1) := by decide +kernel
theorem d_M_there_0 : decode b_M_there 0 = .ok (.aload_n 0, 1) := by decide +kernel
theorem d_M_there_1 : decode b_M_there 1 = .ok (.iload_n 1, 1) := by decide +kernel
theorem d_M_there_2 : decode b_M_there 2 = .ok (.iconst 1, 1) := by decide +kernel
theorem d_M_there_3 : decode b_M_there 3 = .ok (.bipush 50, 2) := by decide +kernel
theorem d_M_there_5 : decode b_M_there 5 = .ok (.invokestatic 54, 3) := by decide +kernel
theorem d_M_there_8 : decode b_M_there 8 = .ok (.ifCond .eq 22, 3) := by decide +kernel
theorem d_M_there_11 : decode b_M_there 11 = .ok (.aload_n 0, 1) := by decide +kernel
theorem d_M_there_12 : decode b_M_there 12 = .ok (.iload_n 2, 1) := by decide +kernel
theorem d_M_there_13 : decode b_M_there 13 = .ok (.invokevirtual 62, 3) := by decide +kernel
theorem d_M_there_16 : decode b_M_there 16 = .ok (.ifCond .ne 14, 3) := by decide +kernel
theorem d_M_there_19 : decode b_M_there 19 = .ok (.iload_n 3, 1) := by decide +kernel
theorem d_M_there_20 : decode b_M_there 20 = .ok (.iconst 0, 1) := by decide +kernel
theorem d_M_there_21 : decode b_M_there 21 = .ok (.sipush 1000, 3) := by decide +kernel
theorem d_M_there_24 : decode b_M_there 24 = .ok (.invokestatic 54, 3) := by decide +kernel
theorem d_M_there_27 : decode b_M_there 27 = .ok (.ifCond .ne 7, 3) := by decide +kernel
theorem d_M_there_30 : decode b_M_there 30 = .ok (.iconst 1, 1) := by decide +kernel
theorem d_M_there_31 : decode b_M_there 31 = .ok (.goto 4, 3) := by decide +kernel
theorem d_M_there_34 : decode b_M_there 34 = .ok (.iconst 0, 1) := by decide +kernel
theorem d_M_there_35 : decode b_M_there 35 = .ok (.putfield 47, 3) := by decide +kernel
theorem d_M_there_38 : decode b_M_there 38 = .ok (.aload_n 0, 1) := by decide +kernel
theorem d_M_there_39 : decode b_M_there 39 = .ok (.getfield 47, 3) := by decide +kernel
theorem d_M_there_42 : decode b_M_there 42 = .ok (.ifCond .le 5, 3) := by decide +kernel
theorem d_M_there_45 : decode b_M_there 45 = .ok (.iconst 0, 1) := by decide +kernel
theorem d_M_there_46 : decode b_M_there 46 = .ok (.ireturn, 1) := by decide +kernel
theorem d_M_there_47 : decode b_M_there 47 = .ok (.aload_n 0, 1) := by decide +kernel
theorem d_M_there_48 : decode b_M_there 48 = .ok (.invokevirtual 126, 3) := by decide +kernel
theorem d_M_there_51 : decode b_M_there 51 = .ok (.iconst 0, 1) := by decide +kernel
theorem d_M_there_52 : decode b_M_there 52 = .ok (.istore 4, 2) := by decide +kernel
theorem d_M_there_54 : decode b_M_there 54 = .ok (.iload 4, 2) := by decide +kernel
theorem d_M_there_56 : decode b_M_there 56 = .ok (.iload_n 3, 1) := by decide +kernel
theorem d_M_there_57 : decode b_M_there 57 = .ok (.if_icmp .ge 14, 3) := by decide +kernel
theorem d_M_there_60 : decode b_M_there 60 = .ok (.aload_n 0, 1) := by decide +kernel
theorem d_M_there_61 : decode b_M_there 61 = .ok (.iload_n 1, 1) := by decide +kernel
theorem d_M_there_62 : decode b_M_there 62 = .ok (.invokevirtual 132, 3) := by decide +kernel
theorem d_M_there_65 : decode b_M_there 65 = .ok (.iinc 4 1, 3) := by decide +kernel
theorem d_M_there_68 : decode b_M_there 68 = .ok (.goto (-14), 3) := by decide +kernel
theorem d_M_there_71 : decode b_M_there 71 = .ok (.aload_n 0, 1) := by decide +kernel
theorem d_M_there_72 : decode b_M_there 72 = .ok (.getfield 44, 3) := by decide +kernel
theorem d_M_there_75 : decode b_M_there 75 = .ok (.iload_n 2, 1) := by decide +kernel
theorem d_M_there_76 : decode b_M_there 76 = .ok (.iaload, 1) := by decide +kernel
theorem d_M_there_77 : decode b_M_there 77 = .ok (.ireturn, 1) := by decide +kernel
theorem d_M_crowd_0 : decode b_M_crowd 0 = .ok (.aload_n 0, 1) := by decide +kernel
theorem d_M_crowd_1 : decode b_M_crowd 1 = .ok (.iload_n 1, 1) := by decide +kernel
theorem d_M_crowd_2 : decode b_M_crowd 2 = .ok (.iconst 1, 1) := by decide +kernel
theorem d_M_crowd_3 : decode b_M_crowd 3 = .ok (.bipush 50, 2) := by decide +kernel
theorem d_M_crowd_5 : decode b_M_crowd 5 = .ok (.invokestatic 54, 3) := by decide +kernel
theorem d_M_crowd_8 : decode b_M_crowd 8 = .ok (.ifCond .eq 11, 3) := by decide +kernel
theorem d_M_crowd_11 : decode b_M_crowd 11 = .ok (.aload_n 0, 1) := by decide +kernel
theorem d_M_crowd_12 : decode b_M_crowd 12 = .ok (.iload_n 2, 1) := by decide +kernel
theorem d_M_crowd_13 : decode b_M_crowd 13 = .ok (.invokevirtual 62, 3) := by decide +kernel
theorem d_M_crowd_16 : decode b_M_crowd 16 = .ok (.ifCond .eq 7, 3) := by decide +kernel
theorem d_M_crowd_19 : decode b_M_crowd 19 = .ok (.iconst 1, 1) := by decide +kernel
theorem d_M_crowd_20 : decode b_M_crowd 20 = .ok (.goto 4, 3) := by decide +kernel
theorem d_M_crowd_23 : decode b_M_crowd 23 = .ok (.iconst 0, 1) := by decide +kernel
theorem d_M_crowd_24 : decode b_M_crowd 24 = .ok (.putfield 47, 3) := by decide +kernel
theorem d_M_crowd_27 : decode b_M_crowd 27 = .ok (.aload_n 0, 1) := by decide +kernel
theorem d_M_crowd_28 : decode b_M_crowd 28 = .ok (.getfield 47, 3) := by decide +kernel
theorem d_M_crowd_31 : decode b_M_crowd 31 = .ok (.ifCond .le 5, 3) := by decide +kernel
theorem d_M_crowd_34 : decode b_M_crowd 34 = .ok (.iconst 0, 1) := by decide +kernel
theorem d_M_crowd_35 : decode b_M_crowd 35 = .ok (.ireturn, 1) := by decide +kernel
theorem d_M_crowd_36 : decode b_M_crowd 36 = .ok (.aload_n 0, 1) := by decide +kernel
theorem d_M_crowd_37 : decode b_M_crowd 37 = .ok (.invokevirtual 126, 3) := by decide +kernel
theorem d_M_crowd_40 : decode b_M_crowd 40 = .ok (.aload_n 0, 1) := by decide +kernel
theorem d_M_crowd_41 : decode b_M_crowd 41 = .ok (.getfield 44, 3) := by decide +kernel
theorem d_M_crowd_44 : decode b_M_crowd 44 = .ok (.iload_n 2, 1) := by decide +kernel
theorem d_M_crowd_45 : decode b_M_crowd 45 = .ok (.iaload, 1) := by decide +kernel
theorem d_M_crowd_46 : decode b_M_crowd 46 = .ok (.istore_n 3, 1) := by decide +kernel
theorem d_M_crowd_47 : decode b_M_crowd 47 = .ok (.aload_n 0, 1) := by decide +kernel
theorem d_M_crowd_48 : decode b_M_crowd 48 = .ok (.invokevirtual 129, 3) := by decide +kernel
theorem d_M_crowd_51 : decode b_M_crowd 51 = .ok (.ifCond .le 32, 3) := by decide +kernel
theorem d_M_crowd_54 : decode b_M_crowd 54 = .ok (.aload_n 0, 1) := by decide +kernel
theorem d_M_crowd_55 : decode b_M_crowd 55 = .ok (.iload_n 1, 1) := by decide +kernel
theorem d_M_crowd_56 : decode b_M_crowd 56 = .ok (.invokevirtual 132, 3) := by decide +kernel
theorem d_M_crowd_59 : decode b_M_crowd 59 = .ok (.aload_n 0, 1) := by decide +kernel
theorem d_M_crowd_60 : decode b_M_crowd 60 = .ok (.getfield 44, 3) := by decide +kernel
theorem d_M_crowd_63 : decode b_M_crowd 63 = .ok (.iload_n 2, 1) := by decide +kernel
theorem d_M_crowd_64 : decode b_M_crowd 64 = .ok (.iaload, 1) := by decide +kernel
theorem d_M_crowd_65 : decode b_M_crowd 65 = .ok (.iload_n 3, 1) := by decide +kernel
theorem d_M_crowd_66 : decode b_M_crowd 66 = .ok (.if_icmp .le 12, 3) := by decide +kernel
theorem d_M_crowd_69 : decode b_M_crowd 69 = .ok (.aload_n 0, 1) := by decide +kernel
theorem d_M_crowd_70 : decode b_M_crowd 70 = .ok (.getfield 44, 3) := by decide +kernel
theorem d_M_crowd_73 : decode b_M_crowd 73 = .ok (.iload_n 2, 1) := by decide +kernel
theorem d_M_crowd_74 : decode b_M_crowd 74 = .ok (.iaload, 1) := by decide +kernel
theorem d_M_crowd_75 : decode b_M_crowd 75 = .ok (.goto 4, 3) := by decide +kernel
theorem d_M_crowd_78 : decode b_M_crowd 78 = .ok (.iload_n 3, 1) := by decide +kernel
theorem d_M_crowd_79 : decode b_M_crowd 79 = .ok (.istore_n 3, 1) := by decide +kernel
theorem d_M_crowd_80 : decode b_M_crowd 80 = .ok (.goto (-33), 3) := by decide +kernel
theorem d_M_crowd_83 : decode b_M_crowd 83 = .ok (.iload_n 3, 1) := by decide +kernel
theorem d_M_crowd_84 : decode b_M_crowd 84 = .ok (.ireturn, 1) := by decide +kernel
