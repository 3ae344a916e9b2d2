theorem dX5_init_0 : decode cX5_init 0 = .ok (.aload_n 0, 1) := by decide +kernel
theorem dX5_init_1 : decode cX5_init 1 = .ok (.invokespecial 1, 3) := by decide +kernel
theorem dX5_init_4 : decode cX5_init 4 = .ok (.aload_n 0, 1) := by decide +kernel
theorem dX5_init_5 : decode cX5_init 5 = .ok (.new 7, 3) := by decide +kernel
theorem dX5_init_8 : decode cX5_init 8 = .ok (.dup, 1) := by decide +kernel
theorem dX5_init_9 : decode cX5_init 9 = .ok (.invokespecial 9, 3) := by decide +kernel
theorem dX5_init_12 : decode cX5_init 12 = .ok (.putfield 10, 3) := by decide +kernel
theorem dX5_init_15 : decode cX5_init 15 = .ok (.aload_n 0, 1) := by decide +kernel
theorem dX5_init_16 : decode cX5_init 16 = .ok (.new 16, 3) := by decide +kernel
theorem dX5_init_19 : decode cX5_init 19 = .ok (.dup, 1) := by decide +kernel
theorem dX5_init_20 : decode cX5_init 20 = .ok (.invokespecial 18, 3) := by decide +kernel
theorem dX5_init_23 : decode cX5_init 23 = .ok (.putfield 19, 3) := by decide +kernel
theorem dX5_init_26 : decode cX5_init 26 = .ok (.aload_n 0, 1) := by decide +kernel
theorem dX5_init_27 : decode cX5_init 27 = .ok (.iconst 2, 1) := by decide +kernel
theorem dX5_init_28 : decode cX5_init 28 = .ok (.anewarray 16, 3) := by decide +kernel
theorem dX5_init_31 : decode cX5_init 31 = .ok (.dup, 1) := by decide +kernel
theorem dX5_init_32 : decode cX5_init 32 = .ok (.iconst 0, 1) := by decide +kernel
theorem dX5_init_33 : decode cX5_init 33 = .ok (.new 16, 3) := by decide +kernel
theorem dX5_init_36 : decode cX5_init 36 = .ok (.dup, 1) := by decide +kernel
theorem dX5_init_37 : decode cX5_init 37 = .ok (.invokespecial 18, 3) := by decide +kernel
theorem dX5_init_40 : decode cX5_init 40 = .ok (.aastore, 1) := by decide +kernel
theorem dX5_init_41 : decode cX5_init 41 = .ok (.dup, 1) := by decide +kernel
theorem dX5_init_42 : decode cX5_init 42 = .ok (.iconst 1, 1) := by decide +kernel
theorem dX5_init_43 : decode cX5_init 43 = .ok (.new 16, 3) := by decide +kernel
theorem dX5_init_46 : decode cX5_init 46 = .ok (.dup, 1) := by decide +kernel
theorem dX5_init_47 : decode cX5_init 47 = .ok (.invokespecial 18, 3) := by decide +kernel
theorem dX5_init_50 : decode cX5_init 50 = .ok (.aastore, 1) := by decide +kernel
theorem dX5_init_51 : decode cX5_init 51 = .ok (.putfield 23, 3) := by decide +kernel
theorem dX5_init_54 : decode cX5_init 54 = .ok (.aload_n 0, 1) := by decide +kernel
theorem dX5_init_55 : decode cX5_init 55 = .ok (.bipush 6, 2) := by decide +kernel
theorem dX5_init_57 : decode cX5_init 57 = .ok (.newarray .int, 2) := by decide +kernel
theorem dX5_init_59 : decode cX5_init 59 = .ok (.putfield 27, 3) := by decide +kernel
theorem dX5_init_62 : decode cX5_init 62 = .ok (.aload_n 0, 1) := by decide +kernel
theorem dX5_init_63 : decode cX5_init 63 = .ok (.new 31, 3) := by decide +kernel
theorem dX5_init_66 : decode cX5_init 66 = .ok (.dup, 1) := by decide +kernel
theorem dX5_init_67 : decode cX5_init 67 = .ok (.invokespecial 33, 3) := by decide +kernel
theorem dX5_init_70 : decode cX5_init 70 = .ok (.putfield 34, 3) := by decide +kernel
theorem dX5_init_73 : decode cX5_init 73 = .ok (.aload_n 0, 1) := by decide +kernel
theorem dX5_init_74 : decode cX5_init 74 = .ok (.new 38, 3) := by decide +kernel
theorem dX5_init_77 : decode cX5_init 77 = .ok (.dup, 1) := by decide +kernel
theorem dX5_init_78 : decode cX5_init 78 = .ok (.invokespecial 40, 3) := by decide +kernel
theorem dX5_init_81 : decode cX5_init 81 = .ok (.putfield 41, 3) := by decide +kernel
theorem dX5_init_84 : decode cX5_init 84 = .ok (.aload_n 0, 1) := by decide +kernel
theorem dX5_init_85 : decode cX5_init 85 = .ok (.new 45, 3) := by decide +kernel
theorem dX5_init_88 : decode cX5_init 88 = .ok (.dup, 1) := by decide +kernel
theorem dX5_init_89 : decode cX5_init 89 = .ok (.invokespecial 47, 3) := by decide +kernel
theorem dX5_init_92 : decode cX5_init 92 = .ok (.putfield 48, 3) := by decide +kernel
theorem dX5_init_95 : decode cX5_init 95 = .ok (.aload_n 0, 1) := by decide +kernel
theorem dX5_init_96 : decode cX5_init 96 = .ok (.new 45, 3) := by decide +kernel
theorem dX5_init_99 : decode cX5_init 99 = .ok (.dup, 1) := by decide +kernel
theorem dX5_init_100 : decode cX5_init 100 = .ok (.invokespecial 47, 3) := by decide +kernel
theorem dX5_init_103 : decode cX5_init 103 = .ok (.putfield 52, 3) := by decide +kernel
theorem dX5_init_106 : decode cX5_init 106 = .ok (.aload_n 0, 1) := by decide +kernel
theorem dX5_init_107 : decode cX5_init 107 = .ok (.getfield 19, 3) := by decide +kernel
theorem dX5_init_110 : decode cX5_init 110 = .ok (.aload_n 0, 1) := by decide +kernel
theorem dX5_init_111 : decode cX5_init 111 = .ok (.getfield 48, 3) := by decide +kernel
theorem dX5_init_114 : decode cX5_init 114 = .ok (.invokevirtual 55, 3) := by decide +kernel
theorem dX5_init_117 : decode cX5_init 117 = .ok (.return_, 1) := by decide +kernel
theorem dX5_type_0 : decode cX5_type 0 = .ok (.iload_n 1, 1) := by decide +kernel
theorem dX5_type_1 : decode cX5_type 1 = .ok (.iconst 0, 1) := by decide +kernel
theorem dX5_type_2 : decode cX5_type 2 = .ok (.sipush 255, 3) := by decide +kernel
theorem dX5_type_5 : decode cX5_type 5 = .ok (.invokestatic 59, 3) := by decide +kernel
theorem dX5_type_8 : decode cX5_type 8 = .ok (.ifCond .ne 5, 3) := by decide +kernel
theorem dX5_type_11 : decode cX5_type 11 = .ok (.iconst (-1), 1) := by decide +kernel
theorem dX5_type_12 : decode cX5_type 12 = .ok (.ireturn, 1) := by decide +kernel
theorem dX5_type_13 : decode cX5_type 13 = .ok (.aload_n 0, 1) := by decide +kernel
theorem dX5_type_14 : decode cX5_type 14 = .ok (.getfield 10, 3) := by decide +kernel
theorem dX5_type_17 : decode cX5_type 17 = .ok (.iload_n 1, 1) := by decide +kernel
theorem dX5_type_18 : decode cX5_type 18 = .ok (.invokevirtual 63, 3) := by decide +kernel
theorem dX5_type_21 : decode cX5_type 21 = .ok (.ifCond .eq 13, 3) := by decide +kernel
theorem dX5_type_24 : decode cX5_type 24 = .ok (.aload_n 0, 1) := by decide +kernel
theorem dX5_type_25 : decode cX5_type 25 = .ok (.getfield 10, 3) := by decide +kernel
theorem dX5_type_28 : decode cX5_type 28 = .ok (.getfield 67, 3) := by decide +kernel
theorem dX5_type_31 : decode cX5_type 31 = .ok (.goto 5, 3) := by decide +kernel
theorem dX5_type_34 : decode cX5_type 34 = .ok (.bipush (-3), 2) := by decide +kernel
theorem dX5_type_36 : decode cX5_type 36 = .ok (.ireturn, 1) := by decide +kernel
theorem dX5_clear_0 : decode cX5_clear 0 = .ok (.aload_n 0, 1) := by decide +kernel
theorem dX5_clear_1 : decode cX5_clear 1 = .ok (.getfield 10, 3) := by decide +kernel
theorem dX5_clear_4 : decode cX5_clear 4 = .ok (.getfield 67, 3) := by decide +kernel
theorem dX5_clear_7 : decode cX5_clear 7 = .ok (.istore_n 1, 1) := by decide +kernel
theorem dX5_clear_8 : decode cX5_clear 8 = .ok (.aload_n 0, 1) := by decide +kernel
theorem dX5_clear_9 : decode cX5_clear 9 = .ok (.getfield 10, 3) := by decide +kernel
theorem dX5_clear_12 : decode cX5_clear 12 = .ok (.iconst 0, 1) := by decide +kernel
theorem dX5_clear_13 : decode cX5_clear 13 = .ok (.putfield 67, 3) := by decide +kernel
theorem dX5_clear_16 : decode cX5_clear 16 = .ok (.iload_n 1, 1) := by decide +kernel
theorem dX5_clear_17 : decode cX5_clear 17 = .ok (.ireturn, 1) := by decide +kernel
theorem dX5_land_0 : decode cX5_land 0 = .ok (.aload_n 0, 1) := by decide +kernel
theorem dX5_land_1 : decode cX5_land 1 = .ok (.getfield 52, 3) := by decide +kernel
theorem dX5_land_4 : decode cX5_land 4 = .ok (.aload_n 0, 1) := by decide +kernel
theorem dX5_land_5 : decode cX5_land 5 = .ok (.getfield 10, 3) := by decide +kernel
theorem dX5_land_8 : decode cX5_land 8 = .ok (.invokevirtual 71, 3) := by decide +kernel
theorem dX5_land_11 : decode cX5_land 11 = .ok (.istore_n 1, 1) := by decide +kernel
theorem dX5_land_12 : decode cX5_land 12 = .ok (.iload_n 1, 1) := by decide +kernel
theorem dX5_land_13 : decode cX5_land 13 = .ok (.ifCond .ge 5, 3) := by decide +kernel
theorem dX5_land_16 : decode cX5_land 16 = .ok (.iload_n 1, 1) := by decide +kernel
theorem dX5_land_17 : decode cX5_land 17 = .ok (.ireturn, 1) := by decide +kernel
theorem dX5_land_18 : decode cX5_land 18 = .ok (.aload_n 0, 1) := by decide +kernel
theorem dX5_land_19 : decode cX5_land 19 = .ok (.getfield 48, 3) := by decide +kernel
theorem dX5_land_22 : decode cX5_land 22 = .ok (.astore_n 2, 1) := by decide +kernel
theorem dX5_land_23 : decode cX5_land 23 = .ok (.aload_n 0, 1) := by decide +kernel
theorem dX5_land_24 : decode cX5_land 24 = .ok (.aload_n 0, 1) := by decide +kernel
theorem dX5_land_25 : decode cX5_land 25 = .ok (.getfield 52, 3) := by decide +kernel
theorem dX5_land_28 : decode cX5_land 28 = .ok (.putfield 48, 3) := by decide +kernel
theorem dX5_land_31 : decode cX5_land 31 = .ok (.aload_n 0, 1) := by decide +kernel
theorem dX5_land_32 : decode cX5_land 32 = .ok (.aload_n 2, 1) := by decide +kernel
theorem dX5_land_33 : decode cX5_land 33 = .ok (.putfield 52, 3) := by decide +kernel
theorem dX5_land_36 : decode cX5_land 36 = .ok (.aload_n 0, 1) := by decide +kernel
theorem dX5_land_37 : decode cX5_land 37 = .ok (.getfield 10, 3) := by decide +kernel
theorem dX5_land_40 : decode cX5_land 40 = .ok (.iconst 0, 1) := by decide +kernel
theorem dX5_land_41 : decode cX5_land 41 = .ok (.putfield 67, 3) := by decide +kernel
theorem dX5_land_44 : decode cX5_land 44 = .ok (.aload_n 0, 1) := by decide +kernel
theorem dX5_land_45 : decode cX5_land 45 = .ok (.getfield 19, 3) := by decide +kernel
theorem dX5_land_48 : decode cX5_land 48 = .ok (.aload_n 0, 1) := by decide +kernel
theorem dX5_land_49 : decode cX5_land 49 = .ok (.getfield 48, 3) := by decide +kernel
theorem dX5_land_52 : decode cX5_land 52 = .ok (.invokevirtual 55, 3) := by decide +kernel
theorem dX5_land_55 : decode cX5_land 55 = .ok (.aload_n 0, 1) := by decide +kernel
theorem dX5_land_56 : decode cX5_land 56 = .ok (.iconst 0, 1) := by decide +kernel
theorem dX5_land_57 : decode cX5_land 57 = .ok (.putfield 75, 3) := by decide +kernel
theorem dX5_land_60 : decode cX5_land 60 = .ok (.iload_n 1, 1) := by decide +kernel
theorem dX5_land_61 : decode cX5_land 61 = .ok (.ireturn, 1) := by decide +kernel
theorem dX5_village_0 : decode cX5_village 0 = .ok (.aload_n 0, 1) := by decide +kernel
theorem dX5_village_1 : decode cX5_village 1 = .ok (.getfield 48, 3) := by decide +kernel
theorem dX5_village_4 : decode cX5_village 4 = .ok (.iload_n 1, 1) := by decide +kernel
theorem dX5_village_5 : decode cX5_village 5 = .ok (.invokevirtual 78, 3) := by decide +kernel
theorem dX5_village_8 : decode cX5_village 8 = .ok (.ifCond .ne 5, 3) := by decide +kernel
theorem dX5_village_11 : decode cX5_village 11 = .ok (.iconst (-1), 1) := by decide +kernel
theorem dX5_village_12 : decode cX5_village 12 = .ok (.ireturn, 1) := by decide +kernel
theorem dX5_village_13 : decode cX5_village 13 = .ok (.iload_n 2, 1) := by decide +kernel
theorem dX5_village_14 : decode cX5_village 14 = .ok (.tableswitch 121 0 6 #[42, 53, 65, 74, 91, 103, 115], 42) := by decide +kernel
theorem dX5_village_56 : decode cX5_village 56 = .ok (.aload_n 0, 1) := by decide +kernel
theorem dX5_village_57 : decode cX5_village 57 = .ok (.getfield 19, 3) := by decide +kernel
theorem dX5_village_60 : decode cX5_village 60 = .ok (.iconst 4, 1) := by decide +kernel
theorem dX5_village_61 : decode cX5_village 61 = .ok (.iload_n 1, 1) := by decide +kernel
theorem dX5_village_62 : decode cX5_village 62 = .ok (.iadd, 1) := by decide +kernel
theorem dX5_village_63 : decode cX5_village 63 = .ok (.invokevirtual 81, 3) := by decide +kernel
theorem dX5_village_66 : decode cX5_village 66 = .ok (.ireturn, 1) := by decide +kernel
theorem dX5_village_67 : decode cX5_village 67 = .ok (.aload_n 0, 1) := by decide +kernel
theorem dX5_village_68 : decode cX5_village 68 = .ok (.getfield 19, 3) := by decide +kernel
theorem dX5_village_71 : decode cX5_village 71 = .ok (.bipush 10, 2) := by decide +kernel
theorem dX5_village_73 : decode cX5_village 73 = .ok (.iload_n 1, 1) := by decide +kernel
theorem dX5_village_74 : decode cX5_village 74 = .ok (.iadd, 1) := by decide +kernel
theorem dX5_village_75 : decode cX5_village 75 = .ok (.invokevirtual 81, 3) := by decide +kernel
theorem dX5_village_78 : decode cX5_village 78 = .ok (.ireturn, 1) := by decide +kernel
theorem dX5_village_79 : decode cX5_village 79 = .ok (.aload_n 0, 1) := by decide +kernel
theorem dX5_village_80 : decode cX5_village 80 = .ok (.getfield 48, 3) := by decide +kernel
theorem dX5_village_83 : decode cX5_village 83 = .ok (.iload_n 1, 1) := by decide +kernel
theorem dX5_village_84 : decode cX5_village 84 = .ok (.invokevirtual 85, 3) := by decide +kernel
theorem dX5_village_87 : decode cX5_village 87 = .ok (.ireturn, 1) := by decide +kernel
theorem dX5_village_88 : decode cX5_village 88 = .ok (.aload_n 0, 1) := by decide +kernel
theorem dX5_village_89 : decode cX5_village 89 = .ok (.getfield 48, 3) := by decide +kernel
theorem dX5_village_92 : decode cX5_village 92 = .ok (.iload_n 1, 1) := by decide +kernel
theorem dX5_village_93 : decode cX5_village 93 = .ok (.invokevirtual 88, 3) := by decide +kernel
theorem dX5_village_96 : decode cX5_village 96 = .ok (.ifCond .eq 7, 3) := by decide +kernel
theorem dX5_village_99 : decode cX5_village 99 = .ok (.iconst 1, 1) := by decide +kernel
theorem dX5_village_100 : decode cX5_village 100 = .ok (.goto 4, 3) := by decide +kernel
theorem dX5_village_103 : decode cX5_village 103 = .ok (.iconst 0, 1) := by decide +kernel
theorem dX5_village_104 : decode cX5_village 104 = .ok (.ireturn, 1) := by decide +kernel
theorem dX5_village_105 : decode cX5_village 105 = .ok (.aload_n 0, 1) := by decide +kernel
theorem dX5_village_106 : decode cX5_village 106 = .ok (.getfield 19, 3) := by decide +kernel
theorem dX5_village_109 : decode cX5_village 109 = .ok (.bipush 16, 2) := by decide +kernel
theorem dX5_village_111 : decode cX5_village 111 = .ok (.iload_n 1, 1) := by decide +kernel
theorem dX5_village_112 : decode cX5_village 112 = .ok (.iadd, 1) := by decide +kernel
theorem dX5_village_113 : decode cX5_village 113 = .ok (.invokevirtual 81, 3) := by decide +kernel
theorem dX5_village_116 : decode cX5_village 116 = .ok (.ireturn, 1) := by decide +kernel
theorem dX5_village_117 : decode cX5_village 117 = .ok (.aload_n 0, 1) := by decide +kernel
theorem dX5_village_118 : decode cX5_village 118 = .ok (.getfield 19, 3) := by decide +kernel
theorem dX5_village_121 : decode cX5_village 121 = .ok (.bipush 22, 2) := by decide +kernel
theorem dX5_village_123 : decode cX5_village 123 = .ok (.iload_n 1, 1) := by decide +kernel
theorem dX5_village_124 : decode cX5_village 124 = .ok (.iadd, 1) := by decide +kernel
theorem dX5_village_125 : decode cX5_village 125 = .ok (.invokevirtual 81, 3) := by decide +kernel
theorem dX5_village_128 : decode cX5_village 128 = .ok (.ireturn, 1) := by decide +kernel
theorem dX5_village_129 : decode cX5_village 129 = .ok (.aload_n 0, 1) := by decide +kernel
theorem dX5_village_130 : decode cX5_village 130 = .ok (.iload_n 1, 1) := by decide +kernel
theorem dX5_village_131 : decode cX5_village 131 = .ok (.invokevirtual 91, 3) := by decide +kernel
theorem dX5_village_134 : decode cX5_village 134 = .ok (.ireturn, 1) := by decide +kernel
theorem dX5_village_135 : decode cX5_village 135 = .ok (.iconst (-1), 1) := by decide +kernel
theorem dX5_village_136 : decode cX5_village 136 = .ok (.ireturn, 1) := by decide +kernel
theorem dX5_far_0 : decode cX5_far 0 = .ok (.aload_n 0, 1) := by decide +kernel
theorem dX5_far_1 : decode cX5_far 1 = .ok (.getfield 48, 3) := by decide +kernel
theorem dX5_far_4 : decode cX5_far 4 = .ok (.iload_n 1, 1) := by decide +kernel
theorem dX5_far_5 : decode cX5_far 5 = .ok (.invokevirtual 78, 3) := by decide +kernel
theorem dX5_far_8 : decode cX5_far 8 = .ok (.ifCond .eq 14, 3) := by decide +kernel
theorem dX5_far_11 : decode cX5_far 11 = .ok (.aload_n 0, 1) := by decide +kernel
theorem dX5_far_12 : decode cX5_far 12 = .ok (.getfield 48, 3) := by decide +kernel
theorem dX5_far_15 : decode cX5_far 15 = .ok (.iload_n 2, 1) := by decide +kernel
theorem dX5_far_16 : decode cX5_far 16 = .ok (.invokevirtual 78, 3) := by decide +kernel
theorem dX5_far_19 : decode cX5_far 19 = .ok (.ifCond .ne 5, 3) := by decide +kernel
theorem dX5_far_22 : decode cX5_far 22 = .ok (.iconst (-1), 1) := by decide +kernel
theorem dX5_far_23 : decode cX5_far 23 = .ok (.ireturn, 1) := by decide +kernel
theorem dX5_far_24 : decode cX5_far 24 = .ok (.aload_n 0, 1) := by decide +kernel
theorem dX5_far_25 : decode cX5_far 25 = .ok (.getfield 48, 3) := by decide +kernel
theorem dX5_far_28 : decode cX5_far 28 = .ok (.iload_n 1, 1) := by decide +kernel
theorem dX5_far_29 : decode cX5_far 29 = .ok (.iload_n 2, 1) := by decide +kernel
theorem dX5_far_30 : decode cX5_far 30 = .ok (.invokevirtual 94, 3) := by decide +kernel
theorem dX5_far_33 : decode cX5_far 33 = .ok (.ireturn, 1) := by decide +kernel
theorem dX5_owes_0 : decode cX5_owes 0 = .ok (.aload_n 0, 1) := by decide +kernel
theorem dX5_owes_1 : decode cX5_owes 1 = .ok (.getfield 48, 3) := by decide +kernel
theorem dX5_owes_4 : decode cX5_owes 4 = .ok (.iload_n 1, 1) := by decide +kernel
theorem dX5_owes_5 : decode cX5_owes 5 = .ok (.invokevirtual 78, 3) := by decide +kernel
theorem dX5_owes_8 : decode cX5_owes 8 = .ok (.ifCond .eq 19, 3) := by decide +kernel
theorem dX5_owes_11 : decode cX5_owes 11 = .ok (.aload_n 0, 1) := by decide +kernel
theorem dX5_owes_12 : decode cX5_owes 12 = .ok (.getfield 48, 3) := by decide +kernel
theorem dX5_owes_15 : decode cX5_owes 15 = .ok (.iload_n 2, 1) := by decide +kernel
theorem dX5_owes_16 : decode cX5_owes 16 = .ok (.invokevirtual 78, 3) := by decide +kernel
theorem dX5_owes_19 : decode cX5_owes 19 = .ok (.ifCond .eq 8, 3) := by decide +kernel
theorem dX5_owes_22 : decode cX5_owes 22 = .ok (.iload_n 1, 1) := by decide +kernel
theorem dX5_owes_23 : decode cX5_owes 23 = .ok (.iload_n 2, 1) := by decide +kernel
theorem dX5_owes_24 : decode cX5_owes 24 = .ok (.if_icmp .ne 5, 3) := by decide +kernel
theorem dX5_owes_27 : decode cX5_owes 27 = .ok (.iconst (-1), 1) := by decide +kernel
theorem dX5_owes_28 : decode cX5_owes 28 = .ok (.ireturn, 1) := by decide +kernel
theorem dX5_owes_29 : decode cX5_owes 29 = .ok (.aload_n 0, 1) := by decide +kernel
theorem dX5_owes_30 : decode cX5_owes 30 = .ok (.getfield 48, 3) := by decide +kernel
theorem dX5_owes_33 : decode cX5_owes 33 = .ok (.iload_n 1, 1) := by decide +kernel
theorem dX5_owes_34 : decode cX5_owes 34 = .ok (.iload_n 2, 1) := by decide +kernel
theorem dX5_owes_35 : decode cX5_owes 35 = .ok (.invokevirtual 98, 3) := by decide +kernel
theorem dX5_owes_38 : decode cX5_owes 38 = .ok (.ireturn, 1) := by decide +kernel
theorem dX5_goes_0 : decode cX5_goes 0 = .ok (.aload_n 0, 1) := by decide +kernel
theorem dX5_goes_1 : decode cX5_goes 1 = .ok (.getfield 48, 3) := by decide +kernel
theorem dX5_goes_4 : decode cX5_goes 4 = .ok (.iload_n 1, 1) := by decide +kernel
theorem dX5_goes_5 : decode cX5_goes 5 = .ok (.invokevirtual 78, 3) := by decide +kernel
theorem dX5_goes_8 : decode cX5_goes 8 = .ok (.ifCond .ne 5, 3) := by decide +kernel
theorem dX5_goes_11 : decode cX5_goes 11 = .ok (.iconst (-1), 1) := by decide +kernel
theorem dX5_goes_12 : decode cX5_goes 12 = .ok (.ireturn, 1) := by decide +kernel
theorem dX5_goes_13 : decode cX5_goes 13 = .ok (.aload_n 0, 1) := by decide +kernel
theorem dX5_goes_14 : decode cX5_goes 14 = .ok (.getfield 48, 3) := by decide +kernel
theorem dX5_goes_17 : decode cX5_goes 17 = .ok (.aload_n 0, 1) := by decide +kernel
theorem dX5_goes_18 : decode cX5_goes 18 = .ok (.getfield 19, 3) := by decide +kernel
theorem dX5_goes_21 : decode cX5_goes 21 = .ok (.iconst 0, 1) := by decide +kernel
theorem dX5_goes_22 : decode cX5_goes 22 = .ok (.invokevirtual 81, 3) := by decide +kernel
theorem dX5_goes_25 : decode cX5_goes 25 = .ok (.iload_n 1, 1) := by decide +kernel
theorem dX5_goes_26 : decode cX5_goes 26 = .ok (.invokevirtual 94, 3) := by decide +kernel
theorem dX5_goes_29 : decode cX5_goes 29 = .ok (.istore_n 2, 1) := by decide +kernel
theorem dX5_goes_30 : decode cX5_goes 30 = .ok (.iload_n 2, 1) := by decide +kernel
theorem dX5_goes_31 : decode cX5_goes 31 = .ok (.bipush (-9), 2) := by decide +kernel
theorem dX5_goes_33 : decode cX5_goes 33 = .ok (.if_icmp .eq 23, 3) := by decide +kernel
theorem dX5_goes_36 : decode cX5_goes 36 = .ok (.iload_n 2, 1) := by decide +kernel
theorem dX5_goes_37 : decode cX5_goes 37 = .ok (.ifCond .eq 19, 3) := by decide +kernel
theorem dX5_goes_40 : decode cX5_goes 40 = .ok (.aload_n 0, 1) := by decide +kernel
theorem dX5_goes_41 : decode cX5_goes 41 = .ok (.getfield 19, 3) := by decide +kernel
theorem dX5_goes_44 : decode cX5_goes 44 = .ok (.iconst 1, 1) := by decide +kernel
theorem dX5_goes_45 : decode cX5_goes 45 = .ok (.invokevirtual 81, 3) := by decide +kernel
theorem dX5_goes_48 : decode cX5_goes 48 = .ok (.iload_n 2, 1) := by decide +kernel
theorem dX5_goes_49 : decode cX5_goes 49 = .ok (.iadd, 1) := by decide +kernel
theorem dX5_goes_50 : decode cX5_goes 50 = .ok (.sipush 999, 3) := by decide +kernel
theorem dX5_goes_53 : decode cX5_goes 53 = .ok (.if_icmp .le 6, 3) := by decide +kernel
theorem dX5_goes_56 : decode cX5_goes 56 = .ok (.bipush (-2), 2) := by decide +kernel
theorem dX5_goes_58 : decode cX5_goes 58 = .ok (.ireturn, 1) := by decide +kernel
theorem dX5_goes_59 : decode cX5_goes 59 = .ok (.aload_n 0, 1) := by decide +kernel
theorem dX5_goes_60 : decode cX5_goes 60 = .ok (.getfield 19, 3) := by decide +kernel
theorem dX5_goes_63 : decode cX5_goes 63 = .ok (.invokevirtual 101, 3) := by decide +kernel
theorem dX5_goes_66 : decode cX5_goes 66 = .ok (.aload_n 0, 1) := by decide +kernel
theorem dX5_goes_67 : decode cX5_goes 67 = .ok (.getfield 19, 3) := by decide +kernel
theorem dX5_goes_70 : decode cX5_goes 70 = .ok (.iload_n 2, 1) := by decide +kernel
theorem dX5_goes_71 : decode cX5_goes 71 = .ok (.aload_n 0, 1) := by decide +kernel
theorem dX5_goes_72 : decode cX5_goes 72 = .ok (.getfield 48, 3) := by decide +kernel
theorem dX5_goes_75 : decode cX5_goes 75 = .ok (.getfield 104, 3) := by decide +kernel
theorem dX5_goes_78 : decode cX5_goes 78 = .ok (.invokevirtual 107, 3) := by decide +kernel
theorem dX5_goes_81 : decode cX5_goes 81 = .ok (.aload_n 0, 1) := by decide +kernel
theorem dX5_goes_82 : decode cX5_goes 82 = .ok (.getfield 19, 3) := by decide +kernel
theorem dX5_goes_85 : decode cX5_goes 85 = .ok (.iconst 0, 1) := by decide +kernel
theorem dX5_goes_86 : decode cX5_goes 86 = .ok (.iload_n 1, 1) := by decide +kernel
theorem dX5_goes_87 : decode cX5_goes 87 = .ok (.invokevirtual 111, 3) := by decide +kernel
theorem dX5_goes_90 : decode cX5_goes 90 = .ok (.aload_n 0, 1) := by decide +kernel
theorem dX5_goes_91 : decode cX5_goes 91 = .ok (.getfield 19, 3) := by decide +kernel
theorem dX5_goes_94 : decode cX5_goes 94 = .ok (.iconst 1, 1) := by decide +kernel
theorem dX5_goes_95 : decode cX5_goes 95 = .ok (.invokevirtual 81, 3) := by decide +kernel
theorem dX5_goes_98 : decode cX5_goes 98 = .ok (.ireturn, 1) := by decide +kernel
theorem dX5_stays_0 : decode cX5_stays 0 = .ok (.aload_n 0, 1) := by decide +kernel
theorem dX5_stays_1 : decode cX5_stays 1 = .ok (.getfield 48, 3) := by decide +kernel
theorem dX5_stays_4 : decode cX5_stays 4 = .ok (.getfield 114, 3) := by decide +kernel
theorem dX5_stays_7 : decode cX5_stays 7 = .ok (.ifCond .eq 17, 3) := by decide +kernel
theorem dX5_stays_10 : decode cX5_stays 10 = .ok (.aload_n 0, 1) := by decide +kernel
theorem dX5_stays_11 : decode cX5_stays 11 = .ok (.getfield 19, 3) := by decide +kernel
theorem dX5_stays_14 : decode cX5_stays 14 = .ok (.iconst 1, 1) := by decide +kernel
theorem dX5_stays_15 : decode cX5_stays 15 = .ok (.invokevirtual 81, 3) := by decide +kernel
theorem dX5_stays_18 : decode cX5_stays 18 = .ok (.sipush 999, 3) := by decide +kernel
theorem dX5_stays_21 : decode cX5_stays 21 = .ok (.if_icmp .lt 6, 3) := by decide +kernel
theorem dX5_stays_24 : decode cX5_stays 24 = .ok (.bipush (-2), 2) := by decide +kernel
theorem dX5_stays_26 : decode cX5_stays 26 = .ok (.ireturn, 1) := by decide +kernel
theorem dX5_stays_27 : decode cX5_stays 27 = .ok (.aload_n 0, 1) := by decide +kernel
theorem dX5_stays_28 : decode cX5_stays 28 = .ok (.getfield 19, 3) := by decide +kernel
theorem dX5_stays_31 : decode cX5_stays 31 = .ok (.invokevirtual 101, 3) := by decide +kernel
theorem dX5_stays_34 : decode cX5_stays 34 = .ok (.aload_n 0, 1) := by decide +kernel
theorem dX5_stays_35 : decode cX5_stays 35 = .ok (.getfield 19, 3) := by decide +kernel
theorem dX5_stays_38 : decode cX5_stays 38 = .ok (.iconst 1, 1) := by decide +kernel
theorem dX5_stays_39 : decode cX5_stays 39 = .ok (.aload_n 0, 1) := by decide +kernel
theorem dX5_stays_40 : decode cX5_stays 40 = .ok (.getfield 48, 3) := by decide +kernel
theorem dX5_stays_43 : decode cX5_stays 43 = .ok (.getfield 104, 3) := by decide +kernel
theorem dX5_stays_46 : decode cX5_stays 46 = .ok (.invokevirtual 107, 3) := by decide +kernel
theorem dX5_stays_49 : decode cX5_stays 49 = .ok (.aload_n 0, 1) := by decide +kernel
theorem dX5_stays_50 : decode cX5_stays 50 = .ok (.getfield 19, 3) := by decide +kernel
theorem dX5_stays_53 : decode cX5_stays 53 = .ok (.iconst 1, 1) := by decide +kernel
theorem dX5_stays_54 : decode cX5_stays 54 = .ok (.invokevirtual 81, 3) := by decide +kernel
theorem dX5_stays_57 : decode cX5_stays 57 = .ok (.ireturn, 1) := by decide +kernel
theorem dX5_takes_0 : decode cX5_takes 0 = .ok (.iload_n 1, 1) := by decide +kernel
theorem dX5_takes_1 : decode cX5_takes 1 = .ok (.iconst 1, 1) := by decide +kernel
theorem dX5_takes_2 : decode cX5_takes 2 = .ok (.bipush 60, 2) := by decide +kernel
theorem dX5_takes_4 : decode cX5_takes 4 = .ok (.invokestatic 59, 3) := by decide +kernel
theorem dX5_takes_7 : decode cX5_takes 7 = .ok (.ifCond .ne 5, 3) := by decide +kernel
theorem dX5_takes_10 : decode cX5_takes 10 = .ok (.iconst (-1), 1) := by decide +kernel
theorem dX5_takes_11 : decode cX5_takes 11 = .ok (.ireturn, 1) := by decide +kernel
theorem dX5_takes_12 : decode cX5_takes 12 = .ok (.aload_n 0, 1) := by decide +kernel
theorem dX5_takes_13 : decode cX5_takes 13 = .ok (.getfield 19, 3) := by decide +kernel
theorem dX5_takes_16 : decode cX5_takes 16 = .ok (.iconst 0, 1) := by decide +kernel
theorem dX5_takes_17 : decode cX5_takes 17 = .ok (.invokevirtual 81, 3) := by decide +kernel
theorem dX5_takes_20 : decode cX5_takes 20 = .ok (.istore_n 2, 1) := by decide +kernel
theorem dX5_takes_21 : decode cX5_takes 21 = .ok (.aload_n 0, 1) := by decide +kernel
theorem dX5_takes_22 : decode cX5_takes 22 = .ok (.getfield 48, 3) := by decide +kernel
theorem dX5_takes_25 : decode cX5_takes 25 = .ok (.iload_n 1, 1) := by decide +kernel
theorem dX5_takes_26 : decode cX5_takes 26 = .ok (.invokevirtual 117, 3) := by decide +kernel
theorem dX5_takes_29 : decode cX5_takes 29 = .ok (.istore_n 3, 1) := by decide +kernel
theorem dX5_takes_30 : decode cX5_takes 30 = .ok (.aload_n 0, 1) := by decide +kernel
theorem dX5_takes_31 : decode cX5_takes 31 = .ok (.getfield 48, 3) := by decide +kernel
theorem dX5_takes_34 : decode cX5_takes 34 = .ok (.iload_n 2, 1) := by decide +kernel
theorem dX5_takes_35 : decode cX5_takes 35 = .ok (.invokevirtual 78, 3) := by decide +kernel
theorem dX5_takes_38 : decode cX5_takes 38 = .ok (.ifCond .eq 28, 3) := by decide +kernel
theorem dX5_takes_41 : decode cX5_takes 41 = .ok (.aload_n 0, 1) := by decide +kernel
theorem dX5_takes_42 : decode cX5_takes 42 = .ok (.getfield 48, 3) := by decide +kernel
theorem dX5_takes_45 : decode cX5_takes 45 = .ok (.iload_n 2, 1) := by decide +kernel
theorem dX5_takes_46 : decode cX5_takes 46 = .ok (.invokevirtual 88, 3) := by decide +kernel
theorem dX5_takes_49 : decode cX5_takes 49 = .ok (.ifCond .ne 17, 3) := by decide +kernel
theorem dX5_takes_52 : decode cX5_takes 52 = .ok (.aload_n 0, 1) := by decide +kernel
theorem dX5_takes_53 : decode cX5_takes 53 = .ok (.getfield 19, 3) := by decide +kernel
theorem dX5_takes_56 : decode cX5_takes 56 = .ok (.iconst 4, 1) := by decide +kernel
theorem dX5_takes_57 : decode cX5_takes 57 = .ok (.iload_n 2, 1) := by decide +kernel
theorem dX5_takes_58 : decode cX5_takes 58 = .ok (.iadd, 1) := by decide +kernel
theorem dX5_takes_59 : decode cX5_takes 59 = .ok (.invokevirtual 81, 3) := by decide +kernel
theorem dX5_takes_62 : decode cX5_takes 62 = .ok (.iload_n 1, 1) := by decide +kernel
theorem dX5_takes_63 : decode cX5_takes 63 = .ok (.if_icmp .ge 6, 3) := by decide +kernel
theorem dX5_takes_66 : decode cX5_takes 66 = .ok (.bipush (-2), 2) := by decide +kernel
theorem dX5_takes_68 : decode cX5_takes 68 = .ok (.ireturn, 1) := by decide +kernel
theorem dX5_takes_69 : decode cX5_takes 69 = .ok (.aload_n 0, 1) := by decide +kernel
theorem dX5_takes_70 : decode cX5_takes 70 = .ok (.getfield 19, 3) := by decide +kernel
theorem dX5_takes_73 : decode cX5_takes 73 = .ok (.iconst 2, 1) := by decide +kernel
theorem dX5_takes_74 : decode cX5_takes 74 = .ok (.invokevirtual 81, 3) := by decide +kernel
theorem dX5_takes_77 : decode cX5_takes 77 = .ok (.iload_n 1, 1) := by decide +kernel
theorem dX5_takes_78 : decode cX5_takes 78 = .ok (.iadd, 1) := by decide +kernel
theorem dX5_takes_79 : decode cX5_takes 79 = .ok (.sipush 999, 3) := by decide +kernel
theorem dX5_takes_82 : decode cX5_takes 82 = .ok (.if_icmp .gt 22, 3) := by decide +kernel
theorem dX5_takes_85 : decode cX5_takes 85 = .ok (.aload_n 0, 1) := by decide +kernel
theorem dX5_takes_86 : decode cX5_takes 86 = .ok (.getfield 19, 3) := by decide +kernel
theorem dX5_takes_89 : decode cX5_takes 89 = .ok (.bipush 16, 2) := by decide +kernel
theorem dX5_takes_91 : decode cX5_takes 91 = .ok (.iload_n 2, 1) := by decide +kernel
theorem dX5_takes_92 : decode cX5_takes 92 = .ok (.iadd, 1) := by decide +kernel
theorem dX5_takes_93 : decode cX5_takes 93 = .ok (.invokevirtual 81, 3) := by decide +kernel
theorem dX5_takes_96 : decode cX5_takes 96 = .ok (.iload_n 3, 1) := by decide +kernel
theorem dX5_takes_97 : decode cX5_takes 97 = .ok (.iadd, 1) := by decide +kernel
theorem dX5_takes_98 : decode cX5_takes 98 = .ok (.sipush 999, 3) := by decide +kernel
theorem dX5_takes_101 : decode cX5_takes 101 = .ok (.if_icmp .le 6, 3) := by decide +kernel
theorem dX5_takes_104 : decode cX5_takes 104 = .ok (.bipush (-2), 2) := by decide +kernel
theorem dX5_takes_106 : decode cX5_takes 106 = .ok (.ireturn, 1) := by decide +kernel
theorem dX5_takes_107 : decode cX5_takes 107 = .ok (.aload_n 0, 1) := by decide +kernel
theorem dX5_takes_108 : decode cX5_takes 108 = .ok (.getfield 19, 3) := by decide +kernel
theorem dX5_takes_111 : decode cX5_takes 111 = .ok (.invokevirtual 101, 3) := by decide +kernel
theorem dX5_takes_114 : decode cX5_takes 114 = .ok (.aload_n 0, 1) := by decide +kernel
theorem dX5_takes_115 : decode cX5_takes 115 = .ok (.getfield 19, 3) := by decide +kernel
theorem dX5_takes_118 : decode cX5_takes 118 = .ok (.iconst 4, 1) := by decide +kernel
theorem dX5_takes_119 : decode cX5_takes 119 = .ok (.iload_n 2, 1) := by decide +kernel
theorem dX5_takes_120 : decode cX5_takes 120 = .ok (.iadd, 1) := by decide +kernel
theorem dX5_takes_121 : decode cX5_takes 121 = .ok (.iload_n 1, 1) := by decide +kernel
theorem dX5_takes_122 : decode cX5_takes 122 = .ok (.ineg, 1) := by decide +kernel
theorem dX5_takes_123 : decode cX5_takes 123 = .ok (.invokevirtual 120, 3) := by decide +kernel
theorem dX5_takes_126 : decode cX5_takes 126 = .ok (.aload_n 0, 1) := by decide +kernel
theorem dX5_takes_127 : decode cX5_takes 127 = .ok (.getfield 19, 3) := by decide +kernel
theorem dX5_takes_130 : decode cX5_takes 130 = .ok (.iconst 2, 1) := by decide +kernel
theorem dX5_takes_131 : decode cX5_takes 131 = .ok (.iload_n 1, 1) := by decide +kernel
theorem dX5_takes_132 : decode cX5_takes 132 = .ok (.invokevirtual 120, 3) := by decide +kernel
theorem dX5_takes_135 : decode cX5_takes 135 = .ok (.aload_n 0, 1) := by decide +kernel
theorem dX5_takes_136 : decode cX5_takes 136 = .ok (.getfield 19, 3) := by decide +kernel
theorem dX5_takes_139 : decode cX5_takes 139 = .ok (.bipush 16, 2) := by decide +kernel
theorem dX5_takes_141 : decode cX5_takes 141 = .ok (.iload_n 2, 1) := by decide +kernel
theorem dX5_takes_142 : decode cX5_takes 142 = .ok (.iadd, 1) := by decide +kernel
theorem dX5_takes_143 : decode cX5_takes 143 = .ok (.iload_n 3, 1) := by decide +kernel
theorem dX5_takes_144 : decode cX5_takes 144 = .ok (.invokevirtual 120, 3) := by decide +kernel
theorem dX5_takes_147 : decode cX5_takes 147 = .ok (.iload_n 3, 1) := by decide +kernel
theorem dX5_takes_148 : decode cX5_takes 148 = .ok (.ireturn, 1) := by decide +kernel
theorem dX5_hides_0 : decode cX5_hides 0 = .ok (.aload_n 0, 1) := by decide +kernel
theorem dX5_hides_1 : decode cX5_hides 1 = .ok (.iload_n 1, 1) := by decide +kernel
theorem dX5_hides_2 : decode cX5_hides 2 = .ok (.iload_n 2, 1) := by decide +kernel
theorem dX5_hides_3 : decode cX5_hides 3 = .ok (.iconst 4, 1) := by decide +kernel
theorem dX5_hides_4 : decode cX5_hides 4 = .ok (.bipush 10, 2) := by decide +kernel
theorem dX5_hides_6 : decode cX5_hides 6 = .ok (.invokevirtual 123, 3) := by decide +kernel
theorem dX5_hides_9 : decode cX5_hides 9 = .ok (.ireturn, 1) := by decide +kernel
theorem dX5_shows_0 : decode cX5_shows 0 = .ok (.aload_n 0, 1) := by decide +kernel
theorem dX5_shows_1 : decode cX5_shows 1 = .ok (.iload_n 1, 1) := by decide +kernel
theorem dX5_shows_2 : decode cX5_shows 2 = .ok (.iload_n 2, 1) := by decide +kernel
theorem dX5_shows_3 : decode cX5_shows 3 = .ok (.bipush 10, 2) := by decide +kernel
theorem dX5_shows_5 : decode cX5_shows 5 = .ok (.iconst 4, 1) := by decide +kernel
theorem dX5_shows_6 : decode cX5_shows 6 = .ok (.invokevirtual 123, 3) := by decide +kernel
theorem dX5_shows_9 : decode cX5_shows 9 = .ok (.ireturn, 1) := by decide +kernel
theorem dX5_pays_0 : decode cX5_pays 0 = .ok (.aload_n 0, 1) := by decide +kernel
theorem dX5_pays_1 : decode cX5_pays 1 = .ok (.getfield 48, 3) := by decide +kernel
theorem dX5_pays_4 : decode cX5_pays 4 = .ok (.iload_n 1, 1) := by decide +kernel
theorem dX5_pays_5 : decode cX5_pays 5 = .ok (.invokevirtual 78, 3) := by decide +kernel
theorem dX5_pays_8 : decode cX5_pays 8 = .ok (.ifCond .ne 5, 3) := by decide +kernel
theorem dX5_pays_11 : decode cX5_pays 11 = .ok (.iconst (-1), 1) := by decide +kernel
theorem dX5_pays_12 : decode cX5_pays 12 = .ok (.ireturn, 1) := by decide +kernel
theorem dX5_pays_13 : decode cX5_pays 13 = .ok (.aload_n 0, 1) := by decide +kernel
theorem dX5_pays_14 : decode cX5_pays 14 = .ok (.getfield 19, 3) := by decide +kernel
theorem dX5_pays_17 : decode cX5_pays 17 = .ok (.bipush 16, 2) := by decide +kernel
theorem dX5_pays_19 : decode cX5_pays 19 = .ok (.iload_n 1, 1) := by decide +kernel
theorem dX5_pays_20 : decode cX5_pays 20 = .ok (.iadd, 1) := by decide +kernel
theorem dX5_pays_21 : decode cX5_pays 21 = .ok (.invokevirtual 81, 3) := by decide +kernel
theorem dX5_pays_24 : decode cX5_pays 24 = .ok (.istore_n 2, 1) := by decide +kernel
theorem dX5_pays_25 : decode cX5_pays 25 = .ok (.aload_n 0, 1) := by decide +kernel
theorem dX5_pays_26 : decode cX5_pays 26 = .ok (.getfield 19, 3) := by decide +kernel
theorem dX5_pays_29 : decode cX5_pays 29 = .ok (.invokevirtual 101, 3) := by decide +kernel
theorem dX5_pays_32 : decode cX5_pays 32 = .ok (.aload_n 0, 1) := by decide +kernel
theorem dX5_pays_33 : decode cX5_pays 33 = .ok (.getfield 19, 3) := by decide +kernel
theorem dX5_pays_36 : decode cX5_pays 36 = .ok (.bipush 16, 2) := by decide +kernel
theorem dX5_pays_38 : decode cX5_pays 38 = .ok (.iload_n 1, 1) := by decide +kernel
theorem dX5_pays_39 : decode cX5_pays 39 = .ok (.iadd, 1) := by decide +kernel
theorem dX5_pays_40 : decode cX5_pays 40 = .ok (.iconst 0, 1) := by decide +kernel
theorem dX5_pays_41 : decode cX5_pays 41 = .ok (.invokevirtual 111, 3) := by decide +kernel
theorem dX5_pays_44 : decode cX5_pays 44 = .ok (.iload_n 2, 1) := by decide +kernel
theorem dX5_pays_45 : decode cX5_pays 45 = .ok (.ireturn, 1) := by decide +kernel
theorem dX5_sells_0 : decode cX5_sells 0 = .ok (.aload_n 0, 1) := by decide +kernel
theorem dX5_sells_1 : decode cX5_sells 1 = .ok (.getfield 48, 3) := by decide +kernel
theorem dX5_sells_4 : decode cX5_sells 4 = .ok (.iload_n 1, 1) := by decide +kernel
theorem dX5_sells_5 : decode cX5_sells 5 = .ok (.invokevirtual 78, 3) := by decide +kernel
theorem dX5_sells_8 : decode cX5_sells 8 = .ok (.ifCond .eq 13, 3) := by decide +kernel
theorem dX5_sells_11 : decode cX5_sells 11 = .ok (.iload_n 2, 1) := by decide +kernel
theorem dX5_sells_12 : decode cX5_sells 12 = .ok (.iconst 1, 1) := by decide +kernel
theorem dX5_sells_13 : decode cX5_sells 13 = .ok (.bipush 99, 2) := by decide +kernel
theorem dX5_sells_15 : decode cX5_sells 15 = .ok (.invokestatic 59, 3) := by decide +kernel
theorem dX5_sells_18 : decode cX5_sells 18 = .ok (.ifCond .ne 5, 3) := by decide +kernel
theorem dX5_sells_21 : decode cX5_sells 21 = .ok (.iconst (-1), 1) := by decide +kernel
theorem dX5_sells_22 : decode cX5_sells 22 = .ok (.ireturn, 1) := by decide +kernel
theorem dX5_sells_23 : decode cX5_sells 23 = .ok (.aload_n 0, 1) := by decide +kernel
theorem dX5_sells_24 : decode cX5_sells 24 = .ok (.getfield 19, 3) := by decide +kernel
theorem dX5_sells_27 : decode cX5_sells 27 = .ok (.bipush 16, 2) := by decide +kernel
theorem dX5_sells_29 : decode cX5_sells 29 = .ok (.iload_n 1, 1) := by decide +kernel
theorem dX5_sells_30 : decode cX5_sells 30 = .ok (.iadd, 1) := by decide +kernel
theorem dX5_sells_31 : decode cX5_sells 31 = .ok (.invokevirtual 81, 3) := by decide +kernel
theorem dX5_sells_34 : decode cX5_sells 34 = .ok (.iload_n 2, 1) := by decide +kernel
theorem dX5_sells_35 : decode cX5_sells 35 = .ok (.if_icmp .ge 6, 3) := by decide +kernel
theorem dX5_sells_38 : decode cX5_sells 38 = .ok (.bipush (-2), 2) := by decide +kernel
theorem dX5_sells_40 : decode cX5_sells 40 = .ok (.ireturn, 1) := by decide +kernel
theorem dX5_sells_41 : decode cX5_sells 41 = .ok (.aload_n 0, 1) := by decide +kernel
theorem dX5_sells_42 : decode cX5_sells 42 = .ok (.getfield 19, 3) := by decide +kernel
theorem dX5_sells_45 : decode cX5_sells 45 = .ok (.invokevirtual 101, 3) := by decide +kernel
theorem dX5_sells_48 : decode cX5_sells 48 = .ok (.aload_n 0, 1) := by decide +kernel
theorem dX5_sells_49 : decode cX5_sells 49 = .ok (.getfield 19, 3) := by decide +kernel
theorem dX5_sells_52 : decode cX5_sells 52 = .ok (.bipush 16, 2) := by decide +kernel
theorem dX5_sells_54 : decode cX5_sells 54 = .ok (.iload_n 1, 1) := by decide +kernel
theorem dX5_sells_55 : decode cX5_sells 55 = .ok (.iadd, 1) := by decide +kernel
theorem dX5_sells_56 : decode cX5_sells 56 = .ok (.iload_n 2, 1) := by decide +kernel
theorem dX5_sells_57 : decode cX5_sells 57 = .ok (.ineg, 1) := by decide +kernel
theorem dX5_sells_58 : decode cX5_sells 58 = .ok (.invokevirtual 120, 3) := by decide +kernel
theorem dX5_sells_61 : decode cX5_sells 61 = .ok (.aload_n 0, 1) := by decide +kernel
theorem dX5_sells_62 : decode cX5_sells 62 = .ok (.getfield 19, 3) := by decide +kernel
theorem dX5_sells_65 : decode cX5_sells 65 = .ok (.bipush 22, 2) := by decide +kernel
theorem dX5_sells_67 : decode cX5_sells 67 = .ok (.iload_n 1, 1) := by decide +kernel
theorem dX5_sells_68 : decode cX5_sells 68 = .ok (.iadd, 1) := by decide +kernel
theorem dX5_sells_69 : decode cX5_sells 69 = .ok (.iload_n 2, 1) := by decide +kernel
theorem dX5_sells_70 : decode cX5_sells 70 = .ok (.iconst 3, 1) := by decide +kernel
theorem dX5_sells_71 : decode cX5_sells 71 = .ok (.idiv, 1) := by decide +kernel
theorem dX5_sells_72 : decode cX5_sells 72 = .ok (.invokevirtual 120, 3) := by decide +kernel
theorem dX5_sells_75 : decode cX5_sells 75 = .ok (.aload_n 0, 1) := by decide +kernel
theorem dX5_sells_76 : decode cX5_sells 76 = .ok (.getfield 19, 3) := by decide +kernel
theorem dX5_sells_79 : decode cX5_sells 79 = .ok (.bipush 22, 2) := by decide +kernel
theorem dX5_sells_81 : decode cX5_sells 81 = .ok (.iload_n 1, 1) := by decide +kernel
theorem dX5_sells_82 : decode cX5_sells 82 = .ok (.iadd, 1) := by decide +kernel
theorem dX5_sells_83 : decode cX5_sells 83 = .ok (.invokevirtual 81, 3) := by decide +kernel
theorem dX5_sells_86 : decode cX5_sells 86 = .ok (.ireturn, 1) := by decide +kernel
theorem dX5_undo_0 : decode cX5_undo 0 = .ok (.aload_n 0, 1) := by decide +kernel
theorem dX5_undo_1 : decode cX5_undo 1 = .ok (.getfield 19, 3) := by decide +kernel
theorem dX5_undo_4 : decode cX5_undo 4 = .ok (.invokevirtual 127, 3) := by decide +kernel
theorem dX5_undo_7 : decode cX5_undo 7 = .ok (.ifCond .eq 13, 3) := by decide +kernel
theorem dX5_undo_10 : decode cX5_undo 10 = .ok (.aload_n 0, 1) := by decide +kernel
theorem dX5_undo_11 : decode cX5_undo 11 = .ok (.getfield 19, 3) := by decide +kernel
theorem dX5_undo_14 : decode cX5_undo 14 = .ok (.getfield 131, 3) := by decide +kernel
theorem dX5_undo_17 : decode cX5_undo 17 = .ok (.goto 5, 3) := by decide +kernel
theorem dX5_undo_20 : decode cX5_undo 20 = .ok (.bipush (-2), 2) := by decide +kernel
theorem dX5_undo_22 : decode cX5_undo 22 = .ok (.ireturn, 1) := by decide +kernel
theorem dX5_now_0 : decode cX5_now 0 = .ok (.iload_n 1, 1) := by decide +kernel
theorem dX5_now_1 : decode cX5_now 1 = .ok (.tableswitch 121 0 6 #[43, 52, 61, 70, 79, 111, 116], 43) := by decide +kernel
theorem dX5_now_44 : decode cX5_now 44 = .ok (.aload_n 0, 1) := by decide +kernel
theorem dX5_now_45 : decode cX5_now 45 = .ok (.getfield 19, 3) := by decide +kernel
theorem dX5_now_48 : decode cX5_now 48 = .ok (.iconst 0, 1) := by decide +kernel
theorem dX5_now_49 : decode cX5_now 49 = .ok (.invokevirtual 81, 3) := by decide +kernel
theorem dX5_now_52 : decode cX5_now 52 = .ok (.ireturn, 1) := by decide +kernel
theorem dX5_now_53 : decode cX5_now 53 = .ok (.aload_n 0, 1) := by decide +kernel
theorem dX5_now_54 : decode cX5_now 54 = .ok (.getfield 19, 3) := by decide +kernel
theorem dX5_now_57 : decode cX5_now 57 = .ok (.iconst 1, 1) := by decide +kernel
theorem dX5_now_58 : decode cX5_now 58 = .ok (.invokevirtual 81, 3) := by decide +kernel
theorem dX5_now_61 : decode cX5_now 61 = .ok (.ireturn, 1) := by decide +kernel
theorem dX5_now_62 : decode cX5_now 62 = .ok (.aload_n 0, 1) := by decide +kernel
theorem dX5_now_63 : decode cX5_now 63 = .ok (.getfield 19, 3) := by decide +kernel
theorem dX5_now_66 : decode cX5_now 66 = .ok (.iconst 2, 1) := by decide +kernel
theorem dX5_now_67 : decode cX5_now 67 = .ok (.invokevirtual 81, 3) := by decide +kernel
theorem dX5_now_70 : decode cX5_now 70 = .ok (.ireturn, 1) := by decide +kernel
theorem dX5_now_71 : decode cX5_now 71 = .ok (.aload_n 0, 1) := by decide +kernel
theorem dX5_now_72 : decode cX5_now 72 = .ok (.getfield 19, 3) := by decide +kernel
theorem dX5_now_75 : decode cX5_now 75 = .ok (.iconst 3, 1) := by decide +kernel
theorem dX5_now_76 : decode cX5_now 76 = .ok (.invokevirtual 81, 3) := by decide +kernel
theorem dX5_now_79 : decode cX5_now 79 = .ok (.ireturn, 1) := by decide +kernel
theorem dX5_now_80 : decode cX5_now 80 = .ok (.aload_n 0, 1) := by decide +kernel
theorem dX5_now_81 : decode cX5_now 81 = .ok (.getfield 48, 3) := by decide +kernel
theorem dX5_now_84 : decode cX5_now 84 = .ok (.getfield 104, 3) := by decide +kernel
theorem dX5_now_87 : decode cX5_now 87 = .ok (.iconst 1, 1) := by decide +kernel
theorem dX5_now_88 : decode cX5_now 88 = .ok (.if_icmp .ge 7, 3) := by decide +kernel
theorem dX5_now_91 : decode cX5_now 91 = .ok (.iconst 0, 1) := by decide +kernel
theorem dX5_now_92 : decode cX5_now 92 = .ok (.goto 19, 3) := by decide +kernel
theorem dX5_now_95 : decode cX5_now 95 = .ok (.aload_n 0, 1) := by decide +kernel
theorem dX5_now_96 : decode cX5_now 96 = .ok (.getfield 19, 3) := by decide +kernel
theorem dX5_now_99 : decode cX5_now 99 = .ok (.iconst 2, 1) := by decide +kernel
theorem dX5_now_100 : decode cX5_now 100 = .ok (.invokevirtual 81, 3) := by decide +kernel
theorem dX5_now_103 : decode cX5_now 103 = .ok (.aload_n 0, 1) := by decide +kernel
theorem dX5_now_104 : decode cX5_now 104 = .ok (.getfield 48, 3) := by decide +kernel
theorem dX5_now_107 : decode cX5_now 107 = .ok (.getfield 104, 3) := by decide +kernel
theorem dX5_now_110 : decode cX5_now 110 = .ok (.idiv, 1) := by decide +kernel
theorem dX5_now_111 : decode cX5_now 111 = .ok (.ireturn, 1) := by decide +kernel
theorem dX5_now_112 : decode cX5_now 112 = .ok (.aload_n 0, 1) := by decide +kernel
theorem dX5_now_113 : decode cX5_now 113 = .ok (.invokevirtual 134, 3) := by decide +kernel
theorem dX5_now_116 : decode cX5_now 116 = .ok (.ireturn, 1) := by decide +kernel
theorem dX5_now_117 : decode cX5_now 117 = .ok (.aload_n 0, 1) := by decide +kernel
theorem dX5_now_118 : decode cX5_now 118 = .ok (.invokevirtual 138, 3) := by decide +kernel
theorem dX5_now_121 : decode cX5_now 121 = .ok (.ireturn, 1) := by decide +kernel
theorem dX5_now_122 : decode cX5_now 122 = .ok (.iconst (-1), 1) := by decide +kernel
theorem dX5_now_123 : decode cX5_now 123 = .ok (.ireturn, 1) := by decide +kernel
theorem dX5_tour_0 : decode cX5_tour 0 = .ok (.iload_n 1, 1) := by decide +kernel
theorem dX5_tour_1 : decode cX5_tour 1 = .ok (.iconst 1, 1) := by decide +kernel
theorem dX5_tour_2 : decode cX5_tour 2 = .ok (.bipush 60, 2) := by decide +kernel
theorem dX5_tour_4 : decode cX5_tour 4 = .ok (.invokestatic 59, 3) := by decide +kernel
theorem dX5_tour_7 : decode cX5_tour 7 = .ok (.ifCond .eq 13, 3) := by decide +kernel
theorem dX5_tour_10 : decode cX5_tour 10 = .ok (.iload_n 2, 1) := by decide +kernel
theorem dX5_tour_11 : decode cX5_tour 11 = .ok (.bipush (-2), 2) := by decide +kernel
theorem dX5_tour_13 : decode cX5_tour 13 = .ok (.iconst 5, 1) := by decide +kernel
theorem dX5_tour_14 : decode cX5_tour 14 = .ok (.invokestatic 59, 3) := by decide +kernel
theorem dX5_tour_17 : decode cX5_tour 17 = .ok (.ifCond .ne 5, 3) := by decide +kernel
theorem dX5_tour_20 : decode cX5_tour 20 = .ok (.iconst (-1), 1) := by decide +kernel
theorem dX5_tour_21 : decode cX5_tour 21 = .ok (.ireturn, 1) := by decide +kernel
theorem dX5_tour_22 : decode cX5_tour 22 = .ok (.aload_n 0, 1) := by decide +kernel
theorem dX5_tour_23 : decode cX5_tour 23 = .ok (.invokevirtual 141, 3) := by decide +kernel
theorem dX5_tour_26 : decode cX5_tour 26 = .ok (.aload_n 0, 1) := by decide +kernel
theorem dX5_tour_27 : decode cX5_tour 27 = .ok (.getfield 19, 3) := by decide +kernel
theorem dX5_tour_30 : decode cX5_tour 30 = .ok (.iconst 2, 1) := by decide +kernel
theorem dX5_tour_31 : decode cX5_tour 31 = .ok (.invokevirtual 81, 3) := by decide +kernel
theorem dX5_tour_34 : decode cX5_tour 34 = .ok (.istore_n 3, 1) := by decide +kernel
theorem dX5_tour_35 : decode cX5_tour 35 = .ok (.aload_n 0, 1) := by decide +kernel
theorem dX5_tour_36 : decode cX5_tour 36 = .ok (.getfield 48, 3) := by decide +kernel
theorem dX5_tour_39 : decode cX5_tour 39 = .ok (.getfield 104, 3) := by decide +kernel
theorem dX5_tour_42 : decode cX5_tour 42 = .ok (.iload_n 1, 1) := by decide +kernel
theorem dX5_tour_43 : decode cX5_tour 43 = .ok (.imul, 1) := by decide +kernel
theorem dX5_tour_44 : decode cX5_tour 44 = .ok (.istore 4, 2) := by decide +kernel
theorem dX5_tour_46 : decode cX5_tour 46 = .ok (.aload_n 0, 1) := by decide +kernel
theorem dX5_tour_47 : decode cX5_tour 47 = .ok (.iload 4, 2) := by decide +kernel
theorem dX5_tour_49 : decode cX5_tour 49 = .ok (.iload_n 3, 1) := by decide +kernel
theorem dX5_tour_50 : decode cX5_tour 50 = .ok (.isub, 1) := by decide +kernel
theorem dX5_tour_51 : decode cX5_tour 51 = .ok (.invokevirtual 144, 3) := by decide +kernel
theorem dX5_tour_54 : decode cX5_tour 54 = .ok (.istore 5, 2) := by decide +kernel
theorem dX5_tour_56 : decode cX5_tour 56 = .ok (.iload 5, 2) := by decide +kernel
theorem dX5_tour_58 : decode cX5_tour 58 = .ok (.bipush (-9), 2) := by decide +kernel
theorem dX5_tour_60 : decode cX5_tour 60 = .ok (.if_icmp .ne 6, 3) := by decide +kernel
theorem dX5_tour_63 : decode cX5_tour 63 = .ok (.bipush (-9), 2) := by decide +kernel
theorem dX5_tour_65 : decode cX5_tour 65 = .ok (.ireturn, 1) := by decide +kernel
theorem dX5_tour_66 : decode cX5_tour 66 = .ok (.aload_n 0, 1) := by decide +kernel
theorem dX5_tour_67 : decode cX5_tour 67 = .ok (.getfield 34, 3) := by decide +kernel
theorem dX5_tour_70 : decode cX5_tour 70 = .ok (.aload_n 0, 1) := by decide +kernel
theorem dX5_tour_71 : decode cX5_tour 71 = .ok (.getfield 48, 3) := by decide +kernel
theorem dX5_tour_74 : decode cX5_tour 74 = .ok (.aload_n 0, 1) := by decide +kernel
theorem dX5_tour_75 : decode cX5_tour 75 = .ok (.getfield 27, 3) := by decide +kernel
theorem dX5_tour_78 : decode cX5_tour 78 = .ok (.iload 5, 2) := by decide +kernel
theorem dX5_tour_80 : decode cX5_tour 80 = .ok (.invokestatic 147, 3) := by decide +kernel
theorem dX5_tour_83 : decode cX5_tour 83 = .ok (.aload_n 0, 1) := by decide +kernel
theorem dX5_tour_84 : decode cX5_tour 84 = .ok (.getfield 19, 3) := by decide +kernel
theorem dX5_tour_87 : decode cX5_tour 87 = .ok (.iconst 0, 1) := by decide +kernel
theorem dX5_tour_88 : decode cX5_tour 88 = .ok (.invokevirtual 81, 3) := by decide +kernel
theorem dX5_tour_91 : decode cX5_tour 91 = .ok (.iload_n 3, 1) := by decide +kernel
theorem dX5_tour_92 : decode cX5_tour 92 = .ok (.iload 4, 2) := by decide +kernel
theorem dX5_tour_94 : decode cX5_tour 94 = .ok (.invokevirtual 152, 3) := by decide +kernel
theorem dX5_tour_97 : decode cX5_tour 97 = .ok (.ifCond .ne 6, 3) := by decide +kernel
theorem dX5_tour_100 : decode cX5_tour 100 = .ok (.bipush (-9), 2) := by decide +kernel
theorem dX5_tour_102 : decode cX5_tour 102 = .ok (.ireturn, 1) := by decide +kernel
theorem dX5_tour_103 : decode cX5_tour 103 = .ok (.iload_n 2, 1) := by decide +kernel
theorem dX5_tour_104 : decode cX5_tour 104 = .ok (.bipush (-2), 2) := by decide +kernel
theorem dX5_tour_106 : decode cX5_tour 106 = .ok (.if_icmp .ne 11, 3) := by decide +kernel
theorem dX5_tour_109 : decode cX5_tour 109 = .ok (.aload_n 0, 1) := by decide +kernel
theorem dX5_tour_110 : decode cX5_tour 110 = .ok (.getfield 34, 3) := by decide +kernel
theorem dX5_tour_113 : decode cX5_tour 113 = .ok (.getfield 156, 3) := by decide +kernel
theorem dX5_tour_116 : decode cX5_tour 116 = .ok (.ireturn, 1) := by decide +kernel
theorem dX5_tour_117 : decode cX5_tour 117 = .ok (.iload_n 2, 1) := by decide +kernel
theorem dX5_tour_118 : decode cX5_tour 118 = .ok (.iconst (-1), 1) := by decide +kernel
theorem dX5_tour_119 : decode cX5_tour 119 = .ok (.if_icmp .ne 13, 3) := by decide +kernel
theorem dX5_tour_122 : decode cX5_tour 122 = .ok (.aload_n 0, 1) := by decide +kernel
theorem dX5_tour_123 : decode cX5_tour 123 = .ok (.getfield 34, 3) := by decide +kernel
theorem dX5_tour_126 : decode cX5_tour 126 = .ok (.getfield 159, 3) := by decide +kernel
theorem dX5_tour_129 : decode cX5_tour 129 = .ok (.goto 11, 3) := by decide +kernel
theorem dX5_tour_132 : decode cX5_tour 132 = .ok (.aload_n 0, 1) := by decide +kernel
theorem dX5_tour_133 : decode cX5_tour 133 = .ok (.getfield 34, 3) := by decide +kernel
theorem dX5_tour_136 : decode cX5_tour 136 = .ok (.iload_n 2, 1) := by decide +kernel
theorem dX5_tour_137 : decode cX5_tour 137 = .ok (.invokevirtual 162, 3) := by decide +kernel
theorem dX5_tour_140 : decode cX5_tour 140 = .ok (.ireturn, 1) := by decide +kernel
theorem dX5_from_0 : decode cX5_from 0 = .ok (.iload_n 1, 1) := by decide +kernel
theorem dX5_from_1 : decode cX5_from 1 = .ok (.iconst 0, 1) := by decide +kernel
theorem dX5_from_2 : decode cX5_from 2 = .ok (.sipush 360, 3) := by decide +kernel
theorem dX5_from_5 : decode cX5_from 5 = .ok (.invokestatic 59, 3) := by decide +kernel
theorem dX5_from_8 : decode cX5_from 8 = .ok (.ifCond .ne 5, 3) := by decide +kernel
theorem dX5_from_11 : decode cX5_from 11 = .ok (.iconst (-1), 1) := by decide +kernel
theorem dX5_from_12 : decode cX5_from 12 = .ok (.ireturn, 1) := by decide +kernel
theorem dX5_from_13 : decode cX5_from 13 = .ok (.aload_n 0, 1) := by decide +kernel
theorem dX5_from_14 : decode cX5_from 14 = .ok (.invokevirtual 141, 3) := by decide +kernel
theorem dX5_from_17 : decode cX5_from 17 = .ok (.aload_n 0, 1) := by decide +kernel
theorem dX5_from_18 : decode cX5_from 18 = .ok (.iload_n 1, 1) := by decide +kernel
theorem dX5_from_19 : decode cX5_from 19 = .ok (.invokevirtual 144, 3) := by decide +kernel
theorem dX5_from_22 : decode cX5_from 22 = .ok (.ireturn, 1) := by decide +kernel
theorem dX5_had_0 : decode cX5_had 0 = .ok (.iload_n 1, 1) := by decide +kernel
theorem dX5_had_1 : decode cX5_had 1 = .ok (.iconst 0, 1) := by decide +kernel
theorem dX5_had_2 : decode cX5_had 2 = .ok (.bipush 60, 2) := by decide +kernel
theorem dX5_had_4 : decode cX5_had 4 = .ok (.invokestatic 59, 3) := by decide +kernel
theorem dX5_had_7 : decode cX5_had 7 = .ok (.ifCond .eq 12, 3) := by decide +kernel
theorem dX5_had_10 : decode cX5_had 10 = .ok (.iload_n 2, 1) := by decide +kernel
theorem dX5_had_11 : decode cX5_had 11 = .ok (.iconst 0, 1) := by decide +kernel
theorem dX5_had_12 : decode cX5_had 12 = .ok (.iconst 1, 1) := by decide +kernel
theorem dX5_had_13 : decode cX5_had 13 = .ok (.invokestatic 59, 3) := by decide +kernel
theorem dX5_had_16 : decode cX5_had 16 = .ok (.ifCond .ne 5, 3) := by decide +kernel
theorem dX5_had_19 : decode cX5_had 19 = .ok (.iconst (-1), 1) := by decide +kernel
theorem dX5_had_20 : decode cX5_had 20 = .ok (.ireturn, 1) := by decide +kernel
theorem dX5_had_21 : decode cX5_had 21 = .ok (.bipush (-9), 2) := by decide +kernel
theorem dX5_had_23 : decode cX5_had 23 = .ok (.istore_n 3, 1) := by decide +kernel
theorem dX5_had_24 : decode cX5_had 24 = .ok (.iconst 1, 1) := by decide +kernel
theorem dX5_had_25 : decode cX5_had 25 = .ok (.istore 4, 2) := by decide +kernel
theorem dX5_had_27 : decode cX5_had 27 = .ok (.iload 4, 2) := by decide +kernel
theorem dX5_had_29 : decode cX5_had 29 = .ok (.bipush 60, 2) := by decide +kernel
theorem dX5_had_31 : decode cX5_had 31 = .ok (.if_icmp .gt 36, 3) := by decide +kernel
theorem dX5_had_34 : decode cX5_had 34 = .ok (.aload_n 0, 1) := by decide +kernel
theorem dX5_had_35 : decode cX5_had 35 = .ok (.getfield 48, 3) := by decide +kernel
theorem dX5_had_38 : decode cX5_had 38 = .ok (.iload 4, 2) := by decide +kernel
theorem dX5_had_40 : decode cX5_had 40 = .ok (.invokevirtual 117, 3) := by decide +kernel
theorem dX5_had_43 : decode cX5_had 43 = .ok (.iload_n 1, 1) := by decide +kernel
theorem dX5_had_44 : decode cX5_had 44 = .ok (.if_icmp .ne 17, 3) := by decide +kernel
theorem dX5_had_47 : decode cX5_had 47 = .ok (.iload_n 2, 1) := by decide +kernel
theorem dX5_had_48 : decode cX5_had 48 = .ok (.iconst 1, 1) := by decide +kernel
theorem dX5_had_49 : decode cX5_had 49 = .ok (.if_icmp .eq 9, 3) := by decide +kernel
theorem dX5_had_52 : decode cX5_had 52 = .ok (.iload_n 3, 1) := by decide +kernel
theorem dX5_had_53 : decode cX5_had 53 = .ok (.bipush (-9), 2) := by decide +kernel
theorem dX5_had_55 : decode cX5_had 55 = .ok (.if_icmp .ne 6, 3) := by decide +kernel
theorem dX5_had_58 : decode cX5_had 58 = .ok (.iload 4, 2) := by decide +kernel
theorem dX5_had_60 : decode cX5_had 60 = .ok (.istore_n 3, 1) := by decide +kernel
theorem dX5_had_61 : decode cX5_had 61 = .ok (.iinc 4 1, 3) := by decide +kernel
theorem dX5_had_64 : decode cX5_had 64 = .ok (.goto (-37), 3) := by decide +kernel
theorem dX5_had_67 : decode cX5_had 67 = .ok (.iload_n 3, 1) := by decide +kernel
theorem dX5_had_68 : decode cX5_had 68 = .ok (.ireturn, 1) := by decide +kernel
theorem dX5_odds_0 : decode cX5_odds 0 = .ok (.iload_n 1, 1) := by decide +kernel
theorem dX5_odds_1 : decode cX5_odds 1 = .ok (.iconst 0, 1) := by decide +kernel
theorem dX5_odds_2 : decode cX5_odds 2 = .ok (.bipush 10, 2) := by decide +kernel
theorem dX5_odds_4 : decode cX5_odds 4 = .ok (.invokestatic 59, 3) := by decide +kernel
theorem dX5_odds_7 : decode cX5_odds 7 = .ok (.ifCond .eq 23, 3) := by decide +kernel
theorem dX5_odds_10 : decode cX5_odds 10 = .ok (.iload_n 2, 1) := by decide +kernel
theorem dX5_odds_11 : decode cX5_odds 11 = .ok (.iconst 0, 1) := by decide +kernel
theorem dX5_odds_12 : decode cX5_odds 12 = .ok (.sipush 360, 3) := by decide +kernel
theorem dX5_odds_15 : decode cX5_odds 15 = .ok (.invokestatic 59, 3) := by decide +kernel
theorem dX5_odds_18 : decode cX5_odds 18 = .ok (.ifCond .eq 12, 3) := by decide +kernel
theorem dX5_odds_21 : decode cX5_odds 21 = .ok (.iload_n 3, 1) := by decide +kernel
theorem dX5_odds_22 : decode cX5_odds 22 = .ok (.iconst 0, 1) := by decide +kernel
theorem dX5_odds_23 : decode cX5_odds 23 = .ok (.iconst 1, 1) := by decide +kernel
theorem dX5_odds_24 : decode cX5_odds 24 = .ok (.invokestatic 59, 3) := by decide +kernel
theorem dX5_odds_27 : decode cX5_odds 27 = .ok (.ifCond .ne 5, 3) := by decide +kernel
theorem dX5_odds_30 : decode cX5_odds 30 = .ok (.iconst (-1), 1) := by decide +kernel
theorem dX5_odds_31 : decode cX5_odds 31 = .ok (.ireturn, 1) := by decide +kernel
theorem dX5_odds_32 : decode cX5_odds 32 = .ok (.aload_n 0, 1) := by decide +kernel
theorem dX5_odds_33 : decode cX5_odds 33 = .ok (.invokevirtual 141, 3) := by decide +kernel
theorem dX5_odds_36 : decode cX5_odds 36 = .ok (.iconst 0, 1) := by decide +kernel
theorem dX5_odds_37 : decode cX5_odds 37 = .ok (.istore 4, 2) := by decide +kernel
theorem dX5_odds_39 : decode cX5_odds 39 = .ok (.iconst 1, 1) := by decide +kernel
theorem dX5_odds_40 : decode cX5_odds 40 = .ok (.istore 5, 2) := by decide +kernel
theorem dX5_odds_42 : decode cX5_odds 42 = .ok (.iconst 0, 1) := by decide +kernel
theorem dX5_odds_43 : decode cX5_odds 43 = .ok (.istore 6, 2) := by decide +kernel
theorem dX5_odds_45 : decode cX5_odds 45 = .ok (.iload 6, 2) := by decide +kernel
theorem dX5_odds_47 : decode cX5_odds 47 = .ok (.aload_n 0, 1) := by decide +kernel
theorem dX5_odds_48 : decode cX5_odds 48 = .ok (.getfield 48, 3) := by decide +kernel
theorem dX5_odds_51 : decode cX5_odds 51 = .ok (.getfield 114, 3) := by decide +kernel
theorem dX5_odds_54 : decode cX5_odds 54 = .ok (.if_icmp .ge 16, 3) := by decide +kernel
theorem dX5_odds_57 : decode cX5_odds 57 = .ok (.iload 5, 2) := by decide +kernel
theorem dX5_odds_59 : decode cX5_odds 59 = .ok (.bipush 10, 2) := by decide +kernel
theorem dX5_odds_61 : decode cX5_odds 61 = .ok (.imul, 1) := by decide +kernel
theorem dX5_odds_62 : decode cX5_odds 62 = .ok (.istore 5, 2) := by decide +kernel
theorem dX5_odds_64 : decode cX5_odds 64 = .ok (.iinc 6 1, 3) := by decide +kernel
theorem dX5_odds_67 : decode cX5_odds 67 = .ok (.goto (-22), 3) := by decide +kernel
theorem dX5_odds_70 : decode cX5_odds 70 = .ok (.iconst 0, 1) := by decide +kernel
theorem dX5_odds_71 : decode cX5_odds 71 = .ok (.istore 6, 2) := by decide +kernel
theorem dX5_odds_73 : decode cX5_odds 73 = .ok (.iload 6, 2) := by decide +kernel
theorem dX5_odds_75 : decode cX5_odds 75 = .ok (.iconst 1, 1) := by decide +kernel
theorem dX5_odds_76 : decode cX5_odds 76 = .ok (.aload_n 0, 1) := by decide +kernel
theorem dX5_odds_77 : decode cX5_odds 77 = .ok (.getfield 48, 3) := by decide +kernel
theorem dX5_odds_80 : decode cX5_odds 80 = .ok (.getfield 114, 3) := by decide +kernel
theorem dX5_odds_83 : decode cX5_odds 83 = .ok (.ishl, 1) := by decide +kernel
theorem dX5_odds_84 : decode cX5_odds 84 = .ok (.if_icmp .ge 31, 3) := by decide +kernel
theorem dX5_odds_87 : decode cX5_odds 87 = .ok (.aload_n 0, 1) := by decide +kernel
theorem dX5_odds_88 : decode cX5_odds 88 = .ok (.iload 6, 2) := by decide +kernel
theorem dX5_odds_90 : decode cX5_odds 90 = .ok (.invokevirtual 165, 3) := by decide +kernel
theorem dX5_odds_93 : decode cX5_odds 93 = .ok (.iload_n 2, 1) := by decide +kernel
theorem dX5_odds_94 : decode cX5_odds 94 = .ok (.if_icmp .lt 15, 3) := by decide +kernel
theorem dX5_odds_97 : decode cX5_odds 97 = .ok (.iload 4, 2) := by decide +kernel
theorem dX5_odds_99 : decode cX5_odds 99 = .ok (.aload_n 0, 1) := by decide +kernel
theorem dX5_odds_100 : decode cX5_odds 100 = .ok (.iload 6, 2) := by decide +kernel
theorem dX5_odds_102 : decode cX5_odds 102 = .ok (.iload_n 1, 1) := by decide +kernel
theorem dX5_odds_103 : decode cX5_odds 103 = .ok (.invokevirtual 168, 3) := by decide +kernel
theorem dX5_odds_106 : decode cX5_odds 106 = .ok (.iadd, 1) := by decide +kernel
theorem dX5_odds_107 : decode cX5_odds 107 = .ok (.istore 4, 2) := by decide +kernel
theorem dX5_odds_109 : decode cX5_odds 109 = .ok (.iinc 6 1, 3) := by decide +kernel
theorem dX5_odds_112 : decode cX5_odds 112 = .ok (.goto (-39), 3) := by decide +kernel
theorem dX5_odds_115 : decode cX5_odds 115 = .ok (.iload 4, 2) := by decide +kernel
theorem dX5_odds_117 : decode cX5_odds 117 = .ok (.iload 5, 2) := by decide +kernel
theorem dX5_odds_119 : decode cX5_odds 119 = .ok (.iload_n 3, 1) := by decide +kernel
theorem dX5_odds_120 : decode cX5_odds 120 = .ok (.invokestatic 171, 3) := by decide +kernel
theorem dX5_odds_123 : decode cX5_odds 123 = .ok (.ireturn, 1) := by decide +kernel
theorem dX5_rests_0 : decode cX5_rests 0 = .ok (.iload_n 1, 1) := by decide +kernel
theorem dX5_rests_1 : decode cX5_rests 1 = .ok (.iconst 1, 1) := by decide +kernel
theorem dX5_rests_2 : decode cX5_rests 2 = .ok (.bipush 60, 2) := by decide +kernel
theorem dX5_rests_4 : decode cX5_rests 4 = .ok (.invokestatic 59, 3) := by decide +kernel
theorem dX5_rests_7 : decode cX5_rests 7 = .ok (.ifCond .eq 23, 3) := by decide +kernel
theorem dX5_rests_10 : decode cX5_rests 10 = .ok (.iload_n 2, 1) := by decide +kernel
theorem dX5_rests_11 : decode cX5_rests 11 = .ok (.iconst 0, 1) := by decide +kernel
theorem dX5_rests_12 : decode cX5_rests 12 = .ok (.bipush 60, 2) := by decide +kernel
theorem dX5_rests_14 : decode cX5_rests 14 = .ok (.invokestatic 59, 3) := by decide +kernel
theorem dX5_rests_17 : decode cX5_rests 17 = .ok (.ifCond .eq 13, 3) := by decide +kernel
theorem dX5_rests_20 : decode cX5_rests 20 = .ok (.iload_n 3, 1) := by decide +kernel
theorem dX5_rests_21 : decode cX5_rests 21 = .ok (.iconst 0, 1) := by decide +kernel
theorem dX5_rests_22 : decode cX5_rests 22 = .ok (.bipush 60, 2) := by decide +kernel
theorem dX5_rests_24 : decode cX5_rests 24 = .ok (.invokestatic 59, 3) := by decide +kernel
theorem dX5_rests_27 : decode cX5_rests 27 = .ok (.ifCond .ne 5, 3) := by decide +kernel
theorem dX5_rests_30 : decode cX5_rests 30 = .ok (.iconst (-1), 1) := by decide +kernel
theorem dX5_rests_31 : decode cX5_rests 31 = .ok (.ireturn, 1) := by decide +kernel
theorem dX5_rests_32 : decode cX5_rests 32 = .ok (.iconst 0, 1) := by decide +kernel
theorem dX5_rests_33 : decode cX5_rests 33 = .ok (.istore 4, 2) := by decide +kernel
theorem dX5_rests_35 : decode cX5_rests 35 = .ok (.iconst 0, 1) := by decide +kernel
theorem dX5_rests_36 : decode cX5_rests 36 = .ok (.istore 5, 2) := by decide +kernel
theorem dX5_rests_38 : decode cX5_rests 38 = .ok (.iload 5, 2) := by decide +kernel
theorem dX5_rests_40 : decode cX5_rests 40 = .ok (.iconst 4, 1) := by decide +kernel
theorem dX5_rests_41 : decode cX5_rests 41 = .ok (.if_icmp .ge 128, 3) := by decide +kernel
theorem dX5_rests_44 : decode cX5_rests 44 = .ok (.iload 5, 2) := by decide +kernel
theorem dX5_rests_46 : decode cX5_rests 46 = .ok (.iconst 2, 1) := by decide +kernel
theorem dX5_rests_47 : decode cX5_rests 47 = .ok (.iand, 1) := by decide +kernel
theorem dX5_rests_48 : decode cX5_rests 48 = .ok (.ifCond .eq 7, 3) := by decide +kernel
theorem dX5_rests_51 : decode cX5_rests 51 = .ok (.iconst 1, 1) := by decide +kernel
theorem dX5_rests_52 : decode cX5_rests 52 = .ok (.goto 4, 3) := by decide +kernel
theorem dX5_rests_55 : decode cX5_rests 55 = .ok (.iconst 0, 1) := by decide +kernel
theorem dX5_rests_56 : decode cX5_rests 56 = .ok (.istore 6, 2) := by decide +kernel
theorem dX5_rests_58 : decode cX5_rests 58 = .ok (.iload 5, 2) := by decide +kernel
theorem dX5_rests_60 : decode cX5_rests 60 = .ok (.iconst 1, 1) := by decide +kernel
theorem dX5_rests_61 : decode cX5_rests 61 = .ok (.iand, 1) := by decide +kernel
theorem dX5_rests_62 : decode cX5_rests 62 = .ok (.ifCond .eq 7, 3) := by decide +kernel
theorem dX5_rests_65 : decode cX5_rests 65 = .ok (.iconst 1, 1) := by decide +kernel
theorem dX5_rests_66 : decode cX5_rests 66 = .ok (.goto 4, 3) := by decide +kernel
theorem dX5_rests_69 : decode cX5_rests 69 = .ok (.iconst 0, 1) := by decide +kernel
theorem dX5_rests_70 : decode cX5_rests 70 = .ok (.istore 7, 2) := by decide +kernel
theorem dX5_rests_72 : decode cX5_rests 72 = .ok (.iload 6, 2) := by decide +kernel
theorem dX5_rests_74 : decode cX5_rests 74 = .ok (.iload 7, 2) := by decide +kernel
theorem dX5_rests_76 : decode cX5_rests 76 = .ok (.iload_n 1, 1) := by decide +kernel
theorem dX5_rests_77 : decode cX5_rests 77 = .ok (.iload_n 3, 1) := by decide +kernel
theorem dX5_rests_78 : decode cX5_rests 78 = .ok (.invokestatic 175, 3) := by decide +kernel
theorem dX5_rests_81 : decode cX5_rests 81 = .ok (.iload 6, 2) := by decide +kernel
theorem dX5_rests_83 : decode cX5_rests 83 = .ok (.ifCond .ne 7, 3) := by decide +kernel
theorem dX5_rests_86 : decode cX5_rests 86 = .ok (.iconst 1, 1) := by decide +kernel
theorem dX5_rests_87 : decode cX5_rests 87 = .ok (.goto 4, 3) := by decide +kernel
theorem dX5_rests_90 : decode cX5_rests 90 = .ok (.iconst 0, 1) := by decide +kernel
theorem dX5_rests_91 : decode cX5_rests 91 = .ok (.iload 7, 2) := by decide +kernel
theorem dX5_rests_93 : decode cX5_rests 93 = .ok (.iload_n 1, 1) := by decide +kernel
theorem dX5_rests_94 : decode cX5_rests 94 = .ok (.iload_n 3, 1) := by decide +kernel
theorem dX5_rests_95 : decode cX5_rests 95 = .ok (.invokestatic 175, 3) := by decide +kernel
theorem dX5_rests_98 : decode cX5_rests 98 = .ok (.if_icmp .lt 7, 3) := by decide +kernel
theorem dX5_rests_101 : decode cX5_rests 101 = .ok (.iconst 1, 1) := by decide +kernel
theorem dX5_rests_102 : decode cX5_rests 102 = .ok (.goto 4, 3) := by decide +kernel
theorem dX5_rests_105 : decode cX5_rests 105 = .ok (.iconst 0, 1) := by decide +kernel
theorem dX5_rests_106 : decode cX5_rests 106 = .ok (.istore 8, 2) := by decide +kernel
theorem dX5_rests_108 : decode cX5_rests 108 = .ok (.iload 6, 2) := by decide +kernel
theorem dX5_rests_110 : decode cX5_rests 110 = .ok (.iload 7, 2) := by decide +kernel
theorem dX5_rests_112 : decode cX5_rests 112 = .ok (.iload_n 1, 1) := by decide +kernel
theorem dX5_rests_113 : decode cX5_rests 113 = .ok (.iload_n 2, 1) := by decide +kernel
theorem dX5_rests_114 : decode cX5_rests 114 = .ok (.invokestatic 179, 3) := by decide +kernel
theorem dX5_rests_117 : decode cX5_rests 117 = .ok (.iload 6, 2) := by decide +kernel
theorem dX5_rests_119 : decode cX5_rests 119 = .ok (.iload 7, 2) := by decide +kernel
theorem dX5_rests_121 : decode cX5_rests 121 = .ok (.ifCond .ne 7, 3) := by decide +kernel
theorem dX5_rests_124 : decode cX5_rests 124 = .ok (.iconst 1, 1) := by decide +kernel
theorem dX5_rests_125 : decode cX5_rests 125 = .ok (.goto 4, 3) := by decide +kernel
theorem dX5_rests_128 : decode cX5_rests 128 = .ok (.iconst 0, 1) := by decide +kernel
theorem dX5_rests_129 : decode cX5_rests 129 = .ok (.iload_n 1, 1) := by decide +kernel
theorem dX5_rests_130 : decode cX5_rests 130 = .ok (.iload_n 2, 1) := by decide +kernel
theorem dX5_rests_131 : decode cX5_rests 131 = .ok (.invokestatic 179, 3) := by decide +kernel
theorem dX5_rests_134 : decode cX5_rests 134 = .ok (.if_icmp .lt 7, 3) := by decide +kernel
theorem dX5_rests_137 : decode cX5_rests 137 = .ok (.iconst 1, 1) := by decide +kernel
theorem dX5_rests_138 : decode cX5_rests 138 = .ok (.goto 4, 3) := by decide +kernel
theorem dX5_rests_141 : decode cX5_rests 141 = .ok (.iconst 0, 1) := by decide +kernel
theorem dX5_rests_142 : decode cX5_rests 142 = .ok (.istore 9, 2) := by decide +kernel
theorem dX5_rests_144 : decode cX5_rests 144 = .ok (.iload 8, 2) := by decide +kernel
theorem dX5_rests_146 : decode cX5_rests 146 = .ok (.ifCond .eq 17, 3) := by decide +kernel
theorem dX5_rests_149 : decode cX5_rests 149 = .ok (.iload 9, 2) := by decide +kernel
theorem dX5_rests_151 : decode cX5_rests 151 = .ok (.ifCond .eq 12, 3) := by decide +kernel
theorem dX5_rests_154 : decode cX5_rests 154 = .ok (.iload 4, 2) := by decide +kernel
theorem dX5_rests_156 : decode cX5_rests 156 = .ok (.iconst 1, 1) := by decide +kernel
theorem dX5_rests_157 : decode cX5_rests 157 = .ok (.iload 5, 2) := by decide +kernel
theorem dX5_rests_159 : decode cX5_rests 159 = .ok (.ishl, 1) := by decide +kernel
theorem dX5_rests_160 : decode cX5_rests 160 = .ok (.ior, 1) := by decide +kernel
theorem dX5_rests_161 : decode cX5_rests 161 = .ok (.istore 4, 2) := by decide +kernel
theorem dX5_rests_163 : decode cX5_rests 163 = .ok (.iinc 5 1, 3) := by decide +kernel
theorem dX5_rests_166 : decode cX5_rests 166 = .ok (.goto (-128), 3) := by decide +kernel
theorem dX5_rests_169 : decode cX5_rests 169 = .ok (.iload 4, 2) := by decide +kernel
theorem dX5_rests_171 : decode cX5_rests 171 = .ok (.ireturn, 1) := by decide +kernel
theorem dX5_mixed_0 : decode cX5_mixed 0 = .ok (.iload_n 1, 1) := by decide +kernel
theorem dX5_mixed_1 : decode cX5_mixed 1 = .ok (.iconst 1, 1) := by decide +kernel
theorem dX5_mixed_2 : decode cX5_mixed 2 = .ok (.bipush 60, 2) := by decide +kernel
theorem dX5_mixed_4 : decode cX5_mixed 4 = .ok (.invokestatic 59, 3) := by decide +kernel
theorem dX5_mixed_7 : decode cX5_mixed 7 = .ok (.ifCond .eq 22, 3) := by decide +kernel
theorem dX5_mixed_10 : decode cX5_mixed 10 = .ok (.iload_n 2, 1) := by decide +kernel
theorem dX5_mixed_11 : decode cX5_mixed 11 = .ok (.iconst 0, 1) := by decide +kernel
theorem dX5_mixed_12 : decode cX5_mixed 12 = .ok (.bipush 60, 2) := by decide +kernel
theorem dX5_mixed_14 : decode cX5_mixed 14 = .ok (.invokestatic 59, 3) := by decide +kernel
theorem dX5_mixed_17 : decode cX5_mixed 17 = .ok (.ifCond .eq 12, 3) := by decide +kernel
theorem dX5_mixed_20 : decode cX5_mixed 20 = .ok (.iload_n 3, 1) := by decide +kernel
theorem dX5_mixed_21 : decode cX5_mixed 21 = .ok (.iconst 0, 1) := by decide +kernel
theorem dX5_mixed_22 : decode cX5_mixed 22 = .ok (.iconst 1, 1) := by decide +kernel
theorem dX5_mixed_23 : decode cX5_mixed 23 = .ok (.invokestatic 59, 3) := by decide +kernel
theorem dX5_mixed_26 : decode cX5_mixed 26 = .ok (.ifCond .ne 5, 3) := by decide +kernel
theorem dX5_mixed_29 : decode cX5_mixed 29 = .ok (.iconst (-1), 1) := by decide +kernel
theorem dX5_mixed_30 : decode cX5_mixed 30 = .ok (.ireturn, 1) := by decide +kernel
theorem dX5_mixed_31 : decode cX5_mixed 31 = .ok (.iload_n 1, 1) := by decide +kernel
theorem dX5_mixed_32 : decode cX5_mixed 32 = .ok (.iload_n 1, 1) := by decide +kernel
theorem dX5_mixed_33 : decode cX5_mixed 33 = .ok (.iload_n 2, 1) := by decide +kernel
theorem dX5_mixed_34 : decode cX5_mixed 34 = .ok (.iadd, 1) := by decide +kernel
theorem dX5_mixed_35 : decode cX5_mixed 35 = .ok (.iload_n 3, 1) := by decide +kernel
theorem dX5_mixed_36 : decode cX5_mixed 36 = .ok (.invokestatic 171, 3) := by decide +kernel
theorem dX5_mixed_39 : decode cX5_mixed 39 = .ok (.ireturn, 1) := by decide +kernel
theorem dX5_ring_0 : decode cX5_ring 0 = .ok (.iload_n 1, 1) := by decide +kernel
theorem dX5_ring_1 : decode cX5_ring 1 = .ok (.bipush (-2), 2) := by decide +kernel
theorem dX5_ring_3 : decode cX5_ring 3 = .ok (.iconst 5, 1) := by decide +kernel
theorem dX5_ring_4 : decode cX5_ring 4 = .ok (.invokestatic 59, 3) := by decide +kernel
theorem dX5_ring_7 : decode cX5_ring 7 = .ok (.ifCond .ne 5, 3) := by decide +kernel
theorem dX5_ring_10 : decode cX5_ring 10 = .ok (.iconst (-1), 1) := by decide +kernel
theorem dX5_ring_11 : decode cX5_ring 11 = .ok (.ireturn, 1) := by decide +kernel
theorem dX5_ring_12 : decode cX5_ring 12 = .ok (.aload_n 0, 1) := by decide +kernel
theorem dX5_ring_13 : decode cX5_ring 13 = .ok (.getfield 41, 3) := by decide +kernel
theorem dX5_ring_16 : decode cX5_ring 16 = .ok (.aload_n 0, 1) := by decide +kernel
theorem dX5_ring_17 : decode cX5_ring 17 = .ok (.getfield 48, 3) := by decide +kernel
theorem dX5_ring_20 : decode cX5_ring 20 = .ok (.invokevirtual 182, 3) := by decide +kernel
theorem dX5_ring_23 : decode cX5_ring 23 = .ok (.ifCond .ne 6, 3) := by decide +kernel
theorem dX5_ring_26 : decode cX5_ring 26 = .ok (.bipush (-9), 2) := by decide +kernel
theorem dX5_ring_28 : decode cX5_ring 28 = .ok (.ireturn, 1) := by decide +kernel
theorem dX5_ring_29 : decode cX5_ring 29 = .ok (.iload_n 1, 1) := by decide +kernel
theorem dX5_ring_30 : decode cX5_ring 30 = .ok (.bipush (-2), 2) := by decide +kernel
theorem dX5_ring_32 : decode cX5_ring 32 = .ok (.if_icmp .ne 15, 3) := by decide +kernel
theorem dX5_ring_35 : decode cX5_ring 35 = .ok (.aload_n 0, 1) := by decide +kernel
theorem dX5_ring_36 : decode cX5_ring 36 = .ok (.getfield 41, 3) := by decide +kernel
theorem dX5_ring_39 : decode cX5_ring 39 = .ok (.aload_n 0, 1) := by decide +kernel
theorem dX5_ring_40 : decode cX5_ring 40 = .ok (.getfield 48, 3) := by decide +kernel
theorem dX5_ring_43 : decode cX5_ring 43 = .ok (.invokevirtual 185, 3) := by decide +kernel
theorem dX5_ring_46 : decode cX5_ring 46 = .ok (.ireturn, 1) := by decide +kernel
theorem dX5_ring_47 : decode cX5_ring 47 = .ok (.iload_n 1, 1) := by decide +kernel
theorem dX5_ring_48 : decode cX5_ring 48 = .ok (.iconst (-1), 1) := by decide +kernel
theorem dX5_ring_49 : decode cX5_ring 49 = .ok (.if_icmp .ne 13, 3) := by decide +kernel
theorem dX5_ring_52 : decode cX5_ring 52 = .ok (.aload_n 0, 1) := by decide +kernel
theorem dX5_ring_53 : decode cX5_ring 53 = .ok (.getfield 41, 3) := by decide +kernel
theorem dX5_ring_56 : decode cX5_ring 56 = .ok (.getfield 189, 3) := by decide +kernel
theorem dX5_ring_59 : decode cX5_ring 59 = .ok (.goto 11, 3) := by decide +kernel
theorem dX5_ring_62 : decode cX5_ring 62 = .ok (.aload_n 0, 1) := by decide +kernel
theorem dX5_ring_63 : decode cX5_ring 63 = .ok (.getfield 41, 3) := by decide +kernel
theorem dX5_ring_66 : decode cX5_ring 66 = .ok (.iload_n 1, 1) := by decide +kernel
theorem dX5_ring_67 : decode cX5_ring 67 = .ok (.invokevirtual 190, 3) := by decide +kernel
theorem dX5_ring_70 : decode cX5_ring 70 = .ok (.ireturn, 1) := by decide +kernel
theorem dX5_net_0 : decode cX5_net 0 = .ok (.aload_n 0, 1) := by decide +kernel
theorem dX5_net_1 : decode cX5_net 1 = .ok (.getfield 48, 3) := by decide +kernel
theorem dX5_net_4 : decode cX5_net 4 = .ok (.iload_n 1, 1) := by decide +kernel
theorem dX5_net_5 : decode cX5_net 5 = .ok (.invokevirtual 78, 3) := by decide +kernel
theorem dX5_net_8 : decode cX5_net 8 = .ok (.ifCond .ne 6, 3) := by decide +kernel
theorem dX5_net_11 : decode cX5_net 11 = .ok (.ldc 191, 2) := by decide +kernel
theorem dX5_net_13 : decode cX5_net 13 = .ok (.ireturn, 1) := by decide +kernel
theorem dX5_net_14 : decode cX5_net 14 = .ok (.iconst 0, 1) := by decide +kernel
theorem dX5_net_15 : decode cX5_net 15 = .ok (.istore_n 2, 1) := by decide +kernel
theorem dX5_net_16 : decode cX5_net 16 = .ok (.iconst 0, 1) := by decide +kernel
theorem dX5_net_17 : decode cX5_net 17 = .ok (.istore_n 3, 1) := by decide +kernel
theorem dX5_net_18 : decode cX5_net 18 = .ok (.iload_n 3, 1) := by decide +kernel
theorem dX5_net_19 : decode cX5_net 19 = .ok (.aload_n 0, 1) := by decide +kernel
theorem dX5_net_20 : decode cX5_net 20 = .ok (.getfield 48, 3) := by decide +kernel
theorem dX5_net_23 : decode cX5_net 23 = .ok (.getfield 114, 3) := by decide +kernel
theorem dX5_net_26 : decode cX5_net 26 = .ok (.if_icmp .ge 31, 3) := by decide +kernel
theorem dX5_net_29 : decode cX5_net 29 = .ok (.iload_n 2, 1) := by decide +kernel
theorem dX5_net_30 : decode cX5_net 30 = .ok (.aload_n 0, 1) := by decide +kernel
theorem dX5_net_31 : decode cX5_net 31 = .ok (.getfield 48, 3) := by decide +kernel
theorem dX5_net_34 : decode cX5_net 34 = .ok (.iload_n 3, 1) := by decide +kernel
theorem dX5_net_35 : decode cX5_net 35 = .ok (.iload_n 1, 1) := by decide +kernel
theorem dX5_net_36 : decode cX5_net 36 = .ok (.invokevirtual 98, 3) := by decide +kernel
theorem dX5_net_39 : decode cX5_net 39 = .ok (.aload_n 0, 1) := by decide +kernel
theorem dX5_net_40 : decode cX5_net 40 = .ok (.getfield 48, 3) := by decide +kernel
theorem dX5_net_43 : decode cX5_net 43 = .ok (.iload_n 1, 1) := by decide +kernel
theorem dX5_net_44 : decode cX5_net 44 = .ok (.iload_n 3, 1) := by decide +kernel
theorem dX5_net_45 : decode cX5_net 45 = .ok (.invokevirtual 98, 3) := by decide +kernel
theorem dX5_net_48 : decode cX5_net 48 = .ok (.isub, 1) := by decide +kernel
theorem dX5_net_49 : decode cX5_net 49 = .ok (.iadd, 1) := by decide +kernel
theorem dX5_net_50 : decode cX5_net 50 = .ok (.istore_n 2, 1) := by decide +kernel
theorem dX5_net_51 : decode cX5_net 51 = .ok (.iinc 3 1, 3) := by decide +kernel
theorem dX5_net_54 : decode cX5_net 54 = .ok (.goto (-36), 3) := by decide +kernel
theorem dX5_net_57 : decode cX5_net 57 = .ok (.iload_n 2, 1) := by decide +kernel
theorem dX5_net_58 : decode cX5_net 58 = .ok (.ireturn, 1) := by decide +kernel
theorem dX5_mark_0 : decode cX5_mark 0 = .ok (.iload_n 1, 1) := by decide +kernel
theorem dX5_mark_1 : decode cX5_mark 1 = .ok (.iconst 0, 1) := by decide +kernel
theorem dX5_mark_2 : decode cX5_mark 2 = .ok (.iconst 5, 1) := by decide +kernel
theorem dX5_mark_3 : decode cX5_mark 3 = .ok (.invokestatic 59, 3) := by decide +kernel
theorem dX5_mark_6 : decode cX5_mark 6 = .ok (.ifCond .eq 14, 3) := by decide +kernel
theorem dX5_mark_9 : decode cX5_mark 9 = .ok (.aload_n 0, 1) := by decide +kernel
theorem dX5_mark_10 : decode cX5_mark 10 = .ok (.getfield 48, 3) := by decide +kernel
theorem dX5_mark_13 : decode cX5_mark 13 = .ok (.iload_n 2, 1) := by decide +kernel
theorem dX5_mark_14 : decode cX5_mark 14 = .ok (.invokevirtual 78, 3) := by decide +kernel
theorem dX5_mark_17 : decode cX5_mark 17 = .ok (.ifCond .ne 6, 3) := by decide +kernel
theorem dX5_mark_20 : decode cX5_mark 20 = .ok (.ldc 191, 2) := by decide +kernel
theorem dX5_mark_22 : decode cX5_mark 22 = .ok (.ireturn, 1) := by decide +kernel
theorem dX5_mark_23 : decode cX5_mark 23 = .ok (.aload_n 0, 1) := by decide +kernel
theorem dX5_mark_24 : decode cX5_mark 24 = .ok (.iload_n 1, 1) := by decide +kernel
theorem dX5_mark_25 : decode cX5_mark 25 = .ok (.iload_n 2, 1) := by decide +kernel
theorem dX5_mark_26 : decode cX5_mark 26 = .ok (.iconst 0, 1) := by decide +kernel
theorem dX5_mark_27 : decode cX5_mark 27 = .ok (.invokevirtual 192, 3) := by decide +kernel
theorem dX5_mark_30 : decode cX5_mark 30 = .ok (.ireturn, 1) := by decide +kernel
theorem dX5_keep_0 : decode cX5_keep 0 = .ok (.iload_n 1, 1) := by decide +kernel
theorem dX5_keep_1 : decode cX5_keep 1 = .ok (.iconst 0, 1) := by decide +kernel
theorem dX5_keep_2 : decode cX5_keep 2 = .ok (.iconst 1, 1) := by decide +kernel
theorem dX5_keep_3 : decode cX5_keep 3 = .ok (.invokestatic 59, 3) := by decide +kernel
theorem dX5_keep_6 : decode cX5_keep 6 = .ok (.ifCond .ne 5, 3) := by decide +kernel
theorem dX5_keep_9 : decode cX5_keep 9 = .ok (.iconst (-1), 1) := by decide +kernel
theorem dX5_keep_10 : decode cX5_keep 10 = .ok (.ireturn, 1) := by decide +kernel
theorem dX5_keep_11 : decode cX5_keep 11 = .ok (.aload_n 0, 1) := by decide +kernel
theorem dX5_keep_12 : decode cX5_keep 12 = .ok (.getfield 23, 3) := by decide +kernel
theorem dX5_keep_15 : decode cX5_keep 15 = .ok (.iload_n 1, 1) := by decide +kernel
theorem dX5_keep_16 : decode cX5_keep 16 = .ok (.aaload, 1) := by decide +kernel
theorem dX5_keep_17 : decode cX5_keep 17 = .ok (.aload_n 0, 1) := by decide +kernel
theorem dX5_keep_18 : decode cX5_keep 18 = .ok (.getfield 19, 3) := by decide +kernel
theorem dX5_keep_21 : decode cX5_keep 21 = .ok (.invokevirtual 195, 3) := by decide +kernel
theorem dX5_keep_24 : decode cX5_keep 24 = .ok (.aload_n 0, 1) := by decide +kernel
theorem dX5_keep_25 : decode cX5_keep 25 = .ok (.dup, 1) := by decide +kernel
theorem dX5_keep_26 : decode cX5_keep 26 = .ok (.getfield 75, 3) := by decide +kernel
theorem dX5_keep_29 : decode cX5_keep 29 = .ok (.iconst 1, 1) := by decide +kernel
theorem dX5_keep_30 : decode cX5_keep 30 = .ok (.iload_n 1, 1) := by decide +kernel
theorem dX5_keep_31 : decode cX5_keep 31 = .ok (.ishl, 1) := by decide +kernel
theorem dX5_keep_32 : decode cX5_keep 32 = .ok (.ior, 1) := by decide +kernel
theorem dX5_keep_33 : decode cX5_keep 33 = .ok (.putfield 75, 3) := by decide +kernel
theorem dX5_keep_36 : decode cX5_keep 36 = .ok (.aload_n 0, 1) := by decide +kernel
theorem dX5_keep_37 : decode cX5_keep 37 = .ok (.getfield 19, 3) := by decide +kernel
theorem dX5_keep_40 : decode cX5_keep 40 = .ok (.iconst 1, 1) := by decide +kernel
theorem dX5_keep_41 : decode cX5_keep 41 = .ok (.invokevirtual 81, 3) := by decide +kernel
theorem dX5_keep_44 : decode cX5_keep 44 = .ok (.ireturn, 1) := by decide +kernel
theorem dX5_back_0 : decode cX5_back 0 = .ok (.iload_n 1, 1) := by decide +kernel
theorem dX5_back_1 : decode cX5_back 1 = .ok (.iconst 0, 1) := by decide +kernel
theorem dX5_back_2 : decode cX5_back 2 = .ok (.iconst 1, 1) := by decide +kernel
theorem dX5_back_3 : decode cX5_back 3 = .ok (.invokestatic 59, 3) := by decide +kernel
theorem dX5_back_6 : decode cX5_back 6 = .ok (.ifCond .ne 5, 3) := by decide +kernel
theorem dX5_back_9 : decode cX5_back 9 = .ok (.iconst (-1), 1) := by decide +kernel
theorem dX5_back_10 : decode cX5_back 10 = .ok (.ireturn, 1) := by decide +kernel
theorem dX5_back_11 : decode cX5_back 11 = .ok (.aload_n 0, 1) := by decide +kernel
theorem dX5_back_12 : decode cX5_back 12 = .ok (.getfield 75, 3) := by decide +kernel
theorem dX5_back_15 : decode cX5_back 15 = .ok (.iload_n 1, 1) := by decide +kernel
theorem dX5_back_16 : decode cX5_back 16 = .ok (.ishr, 1) := by decide +kernel
theorem dX5_back_17 : decode cX5_back 17 = .ok (.iconst 1, 1) := by decide +kernel
theorem dX5_back_18 : decode cX5_back 18 = .ok (.iand, 1) := by decide +kernel
theorem dX5_back_19 : decode cX5_back 19 = .ok (.ifCond .ne 6, 3) := by decide +kernel
theorem dX5_back_22 : decode cX5_back 22 = .ok (.bipush (-2), 2) := by decide +kernel
theorem dX5_back_24 : decode cX5_back 24 = .ok (.ireturn, 1) := by decide +kernel
theorem dX5_back_25 : decode cX5_back 25 = .ok (.aload_n 0, 1) := by decide +kernel
theorem dX5_back_26 : decode cX5_back 26 = .ok (.getfield 19, 3) := by decide +kernel
theorem dX5_back_29 : decode cX5_back 29 = .ok (.aload_n 0, 1) := by decide +kernel
theorem dX5_back_30 : decode cX5_back 30 = .ok (.getfield 23, 3) := by decide +kernel
theorem dX5_back_33 : decode cX5_back 33 = .ok (.iload_n 1, 1) := by decide +kernel
theorem dX5_back_34 : decode cX5_back 34 = .ok (.aaload, 1) := by decide +kernel
theorem dX5_back_35 : decode cX5_back 35 = .ok (.invokevirtual 195, 3) := by decide +kernel
theorem dX5_back_38 : decode cX5_back 38 = .ok (.aload_n 0, 1) := by decide +kernel
theorem dX5_back_39 : decode cX5_back 39 = .ok (.getfield 19, 3) := by decide +kernel
theorem dX5_back_42 : decode cX5_back 42 = .ok (.iconst 1, 1) := by decide +kernel
theorem dX5_back_43 : decode cX5_back 43 = .ok (.invokevirtual 81, 3) := by decide +kernel
theorem dX5_back_46 : decode cX5_back 46 = .ok (.ireturn, 1) := by decide +kernel
theorem dX5_count_0 : decode cX5_count 0 = .ok (.iload_n 1, 1) := by decide +kernel
theorem dX5_count_1 : decode cX5_count 1 = .ok (.tableswitch 87 0 5 #[39, 47, 55, 63, 71, 79], 39) := by decide +kernel
theorem dX5_count_40 : decode cX5_count 40 = .ok (.aload_n 0, 1) := by decide +kernel
theorem dX5_count_41 : decode cX5_count 41 = .ok (.getfield 48, 3) := by decide +kernel
theorem dX5_count_44 : decode cX5_count 44 = .ok (.getfield 114, 3) := by decide +kernel
theorem dX5_count_47 : decode cX5_count 47 = .ok (.ireturn, 1) := by decide +kernel
theorem dX5_count_48 : decode cX5_count 48 = .ok (.aload_n 0, 1) := by decide +kernel
theorem dX5_count_49 : decode cX5_count 49 = .ok (.getfield 48, 3) := by decide +kernel
theorem dX5_count_52 : decode cX5_count 52 = .ok (.getfield 199, 3) := by decide +kernel
theorem dX5_count_55 : decode cX5_count 55 = .ok (.ireturn, 1) := by decide +kernel
theorem dX5_count_56 : decode cX5_count 56 = .ok (.aload_n 0, 1) := by decide +kernel
theorem dX5_count_57 : decode cX5_count 57 = .ok (.getfield 48, 3) := by decide +kernel
theorem dX5_count_60 : decode cX5_count 60 = .ok (.getfield 104, 3) := by decide +kernel
theorem dX5_count_63 : decode cX5_count 63 = .ok (.ireturn, 1) := by decide +kernel
theorem dX5_count_64 : decode cX5_count 64 = .ok (.aload_n 0, 1) := by decide +kernel
theorem dX5_count_65 : decode cX5_count 65 = .ok (.getfield 48, 3) := by decide +kernel
theorem dX5_count_68 : decode cX5_count 68 = .ok (.getfield 202, 3) := by decide +kernel
theorem dX5_count_71 : decode cX5_count 71 = .ok (.ireturn, 1) := by decide +kernel
theorem dX5_count_72 : decode cX5_count 72 = .ok (.aload_n 0, 1) := by decide +kernel
theorem dX5_count_73 : decode cX5_count 73 = .ok (.getfield 19, 3) := by decide +kernel
theorem dX5_count_76 : decode cX5_count 76 = .ok (.getfield 131, 3) := by decide +kernel
theorem dX5_count_79 : decode cX5_count 79 = .ok (.ireturn, 1) := by decide +kernel
theorem dX5_count_80 : decode cX5_count 80 = .ok (.aload_n 0, 1) := by decide +kernel
theorem dX5_count_81 : decode cX5_count 81 = .ok (.getfield 10, 3) := by decide +kernel
theorem dX5_count_84 : decode cX5_count 84 = .ok (.getfield 67, 3) := by decide +kernel
theorem dX5_count_87 : decode cX5_count 87 = .ok (.ireturn, 1) := by decide +kernel
theorem dX5_count_88 : decode cX5_count 88 = .ok (.iconst (-1), 1) := by decide +kernel
theorem dX5_count_89 : decode cX5_count 89 = .ok (.ireturn, 1) := by decide +kernel
theorem dX5_trace_0 : decode cX5_trace 0 = .ok (.aload_n 0, 1) := by decide +kernel
theorem dX5_trace_1 : decode cX5_trace 1 = .ok (.getfield 205, 3) := by decide +kernel
theorem dX5_trace_4 : decode cX5_trace 4 = .ok (.lreturn, 1) := by decide +kernel
theorem dX5_isWithin_0 : decode cX5_isWithin 0 = .ok (.iload_n 1, 1) := by decide +kernel
theorem dX5_isWithin_1 : decode cX5_isWithin 1 = .ok (.iload_n 0, 1) := by decide +kernel
theorem dX5_isWithin_2 : decode cX5_isWithin 2 = .ok (.if_icmp .gt 12, 3) := by decide +kernel
theorem dX5_isWithin_5 : decode cX5_isWithin 5 = .ok (.iload_n 0, 1) := by decide +kernel
theorem dX5_isWithin_6 : decode cX5_isWithin 6 = .ok (.iload_n 2, 1) := by decide +kernel
theorem dX5_isWithin_7 : decode cX5_isWithin 7 = .ok (.if_icmp .gt 7, 3) := by decide +kernel
theorem dX5_isWithin_10 : decode cX5_isWithin 10 = .ok (.iconst 1, 1) := by decide +kernel
theorem dX5_isWithin_11 : decode cX5_isWithin 11 = .ok (.goto 4, 3) := by decide +kernel
theorem dX5_isWithin_14 : decode cX5_isWithin 14 = .ok (.iconst 0, 1) := by decide +kernel
theorem dX5_isWithin_15 : decode cX5_isWithin 15 = .ok (.ireturn, 1) := by decide +kernel
theorem dX5_moveHens_0 : decode cX5_moveHens 0 = .ok (.aload_n 0, 1) := by decide +kernel
theorem dX5_moveHens_1 : decode cX5_moveHens 1 = .ok (.getfield 48, 3) := by decide +kernel
theorem dX5_moveHens_4 : decode cX5_moveHens 4 = .ok (.iload_n 1, 1) := by decide +kernel
theorem dX5_moveHens_5 : decode cX5_moveHens 5 = .ok (.invokevirtual 78, 3) := by decide +kernel
theorem dX5_moveHens_8 : decode cX5_moveHens 8 = .ok (.ifCond .eq 13, 3) := by decide +kernel
theorem dX5_moveHens_11 : decode cX5_moveHens 11 = .ok (.iload_n 2, 1) := by decide +kernel
theorem dX5_moveHens_12 : decode cX5_moveHens 12 = .ok (.iconst 1, 1) := by decide +kernel
theorem dX5_moveHens_13 : decode cX5_moveHens 13 = .ok (.bipush 60, 2) := by decide +kernel
theorem dX5_moveHens_15 : decode cX5_moveHens 15 = .ok (.invokestatic 59, 3) := by decide +kernel
theorem dX5_moveHens_18 : decode cX5_moveHens 18 = .ok (.ifCond .ne 5, 3) := by decide +kernel
theorem dX5_moveHens_21 : decode cX5_moveHens 21 = .ok (.iconst (-1), 1) := by decide +kernel
theorem dX5_moveHens_22 : decode cX5_moveHens 22 = .ok (.ireturn, 1) := by decide +kernel
theorem dX5_moveHens_23 : decode cX5_moveHens 23 = .ok (.aload_n 0, 1) := by decide +kernel
theorem dX5_moveHens_24 : decode cX5_moveHens 24 = .ok (.getfield 19, 3) := by decide +kernel
theorem dX5_moveHens_27 : decode cX5_moveHens 27 = .ok (.iload_n 3, 1) := by decide +kernel
theorem dX5_moveHens_28 : decode cX5_moveHens 28 = .ok (.iload_n 1, 1) := by decide +kernel
theorem dX5_moveHens_29 : decode cX5_moveHens 29 = .ok (.iadd, 1) := by decide +kernel
theorem dX5_moveHens_30 : decode cX5_moveHens 30 = .ok (.invokevirtual 81, 3) := by decide +kernel
theorem dX5_moveHens_33 : decode cX5_moveHens 33 = .ok (.iload_n 2, 1) := by decide +kernel
theorem dX5_moveHens_34 : decode cX5_moveHens 34 = .ok (.if_icmp .ge 6, 3) := by decide +kernel
theorem dX5_moveHens_37 : decode cX5_moveHens 37 = .ok (.bipush (-2), 2) := by decide +kernel
theorem dX5_moveHens_39 : decode cX5_moveHens 39 = .ok (.ireturn, 1) := by decide +kernel
theorem dX5_moveHens_40 : decode cX5_moveHens 40 = .ok (.aload_n 0, 1) := by decide +kernel
theorem dX5_moveHens_41 : decode cX5_moveHens 41 = .ok (.getfield 19, 3) := by decide +kernel
theorem dX5_moveHens_44 : decode cX5_moveHens 44 = .ok (.invokevirtual 101, 3) := by decide +kernel
theorem dX5_moveHens_47 : decode cX5_moveHens 47 = .ok (.aload_n 0, 1) := by decide +kernel
theorem dX5_moveHens_48 : decode cX5_moveHens 48 = .ok (.getfield 19, 3) := by decide +kernel
theorem dX5_moveHens_51 : decode cX5_moveHens 51 = .ok (.iload_n 3, 1) := by decide +kernel
theorem dX5_moveHens_52 : decode cX5_moveHens 52 = .ok (.iload_n 1, 1) := by decide +kernel
theorem dX5_moveHens_53 : decode cX5_moveHens 53 = .ok (.iadd, 1) := by decide +kernel
theorem dX5_moveHens_54 : decode cX5_moveHens 54 = .ok (.iload_n 2, 1) := by decide +kernel
theorem dX5_moveHens_55 : decode cX5_moveHens 55 = .ok (.ineg, 1) := by decide +kernel
theorem dX5_moveHens_56 : decode cX5_moveHens 56 = .ok (.invokevirtual 120, 3) := by decide +kernel
theorem dX5_moveHens_59 : decode cX5_moveHens 59 = .ok (.aload_n 0, 1) := by decide +kernel
theorem dX5_moveHens_60 : decode cX5_moveHens 60 = .ok (.getfield 19, 3) := by decide +kernel
theorem dX5_moveHens_63 : decode cX5_moveHens 63 = .ok (.iload 4, 2) := by decide +kernel
theorem dX5_moveHens_65 : decode cX5_moveHens 65 = .ok (.iload_n 1, 1) := by decide +kernel
theorem dX5_moveHens_66 : decode cX5_moveHens 66 = .ok (.iadd, 1) := by decide +kernel
theorem dX5_moveHens_67 : decode cX5_moveHens 67 = .ok (.iload_n 2, 1) := by decide +kernel
theorem dX5_moveHens_68 : decode cX5_moveHens 68 = .ok (.invokevirtual 120, 3) := by decide +kernel
theorem dX5_moveHens_71 : decode cX5_moveHens 71 = .ok (.aload_n 0, 1) := by decide +kernel
theorem dX5_moveHens_72 : decode cX5_moveHens 72 = .ok (.getfield 19, 3) := by decide +kernel
theorem dX5_moveHens_75 : decode cX5_moveHens 75 = .ok (.iload 4, 2) := by decide +kernel
theorem dX5_moveHens_77 : decode cX5_moveHens 77 = .ok (.iload_n 1, 1) := by decide +kernel
theorem dX5_moveHens_78 : decode cX5_moveHens 78 = .ok (.iadd, 1) := by decide +kernel
theorem dX5_moveHens_79 : decode cX5_moveHens 79 = .ok (.invokevirtual 81, 3) := by decide +kernel
theorem dX5_moveHens_82 : decode cX5_moveHens 82 = .ok (.ireturn, 1) := by decide +kernel
theorem dX5_spareOf_0 : decode cX5_spareOf 0 = .ok (.aload_n 0, 1) := by decide +kernel
theorem dX5_spareOf_1 : decode cX5_spareOf 1 = .ok (.getfield 48, 3) := by decide +kernel
theorem dX5_spareOf_4 : decode cX5_spareOf 4 = .ok (.iload_n 1, 1) := by decide +kernel
theorem dX5_spareOf_5 : decode cX5_spareOf 5 = .ok (.invokevirtual 88, 3) := by decide +kernel
theorem dX5_spareOf_8 : decode cX5_spareOf 8 = .ok (.ifCond .eq 5, 3) := by decide +kernel
theorem dX5_spareOf_11 : decode cX5_spareOf 11 = .ok (.iconst 0, 1) := by decide +kernel
theorem dX5_spareOf_12 : decode cX5_spareOf 12 = .ok (.ireturn, 1) := by decide +kernel
theorem dX5_spareOf_13 : decode cX5_spareOf 13 = .ok (.aload_n 0, 1) := by decide +kernel
theorem dX5_spareOf_14 : decode cX5_spareOf 14 = .ok (.getfield 19, 3) := by decide +kernel
theorem dX5_spareOf_17 : decode cX5_spareOf 17 = .ok (.iconst 4, 1) := by decide +kernel
theorem dX5_spareOf_18 : decode cX5_spareOf 18 = .ok (.iload_n 1, 1) := by decide +kernel
theorem dX5_spareOf_19 : decode cX5_spareOf 19 = .ok (.iadd, 1) := by decide +kernel
theorem dX5_spareOf_20 : decode cX5_spareOf 20 = .ok (.invokevirtual 81, 3) := by decide +kernel
theorem dX5_spareOf_23 : decode cX5_spareOf 23 = .ok (.istore_n 2, 1) := by decide +kernel
theorem dX5_spareOf_24 : decode cX5_spareOf 24 = .ok (.iload_n 2, 1) := by decide +kernel
theorem dX5_spareOf_25 : decode cX5_spareOf 25 = .ok (.aload_n 0, 1) := by decide +kernel
theorem dX5_spareOf_26 : decode cX5_spareOf 26 = .ok (.getfield 19, 3) := by decide +kernel
theorem dX5_spareOf_29 : decode cX5_spareOf 29 = .ok (.bipush 10, 2) := by decide +kernel
theorem dX5_spareOf_31 : decode cX5_spareOf 31 = .ok (.iload_n 1, 1) := by decide +kernel
theorem dX5_spareOf_32 : decode cX5_spareOf 32 = .ok (.iadd, 1) := by decide +kernel
theorem dX5_spareOf_33 : decode cX5_spareOf 33 = .ok (.invokevirtual 81, 3) := by decide +kernel
theorem dX5_spareOf_36 : decode cX5_spareOf 36 = .ok (.iadd, 1) := by decide +kernel
theorem dX5_spareOf_37 : decode cX5_spareOf 37 = .ok (.aload_n 0, 1) := by decide +kernel
theorem dX5_spareOf_38 : decode cX5_spareOf 38 = .ok (.getfield 48, 3) := by decide +kernel
theorem dX5_spareOf_41 : decode cX5_spareOf 41 = .ok (.iload_n 1, 1) := by decide +kernel
theorem dX5_spareOf_42 : decode cX5_spareOf 42 = .ok (.invokevirtual 85, 3) := by decide +kernel
theorem dX5_spareOf_45 : decode cX5_spareOf 45 = .ok (.isub, 1) := by decide +kernel
theorem dX5_spareOf_46 : decode cX5_spareOf 46 = .ok (.istore_n 3, 1) := by decide +kernel
theorem dX5_spareOf_47 : decode cX5_spareOf 47 = .ok (.iconst 0, 1) := by decide +kernel
theorem dX5_spareOf_48 : decode cX5_spareOf 48 = .ok (.iload_n 2, 1) := by decide +kernel
theorem dX5_spareOf_49 : decode cX5_spareOf 49 = .ok (.iload_n 3, 1) := by decide +kernel
theorem dX5_spareOf_50 : decode cX5_spareOf 50 = .ok (.invokestatic 209, 3) := by decide +kernel
theorem dX5_spareOf_53 : decode cX5_spareOf 53 = .ok (.invokestatic 214, 3) := by decide +kernel
theorem dX5_spareOf_56 : decode cX5_spareOf 56 = .ok (.ireturn, 1) := by decide +kernel
theorem dX5_fillSpares_0 : decode cX5_fillSpares 0 = .ok (.iconst 0, 1) := by decide +kernel
theorem dX5_fillSpares_1 : decode cX5_fillSpares 1 = .ok (.istore_n 1, 1) := by decide +kernel
theorem dX5_fillSpares_2 : decode cX5_fillSpares 2 = .ok (.iload_n 1, 1) := by decide +kernel
theorem dX5_fillSpares_3 : decode cX5_fillSpares 3 = .ok (.bipush 6, 2) := by decide +kernel
theorem dX5_fillSpares_5 : decode cX5_fillSpares 5 = .ok (.if_icmp .ge 35, 3) := by decide +kernel
theorem dX5_fillSpares_8 : decode cX5_fillSpares 8 = .ok (.aload_n 0, 1) := by decide +kernel
theorem dX5_fillSpares_9 : decode cX5_fillSpares 9 = .ok (.getfield 27, 3) := by decide +kernel
theorem dX5_fillSpares_12 : decode cX5_fillSpares 12 = .ok (.iload_n 1, 1) := by decide +kernel
theorem dX5_fillSpares_13 : decode cX5_fillSpares 13 = .ok (.iload_n 1, 1) := by decide +kernel
theorem dX5_fillSpares_14 : decode cX5_fillSpares 14 = .ok (.aload_n 0, 1) := by decide +kernel
theorem dX5_fillSpares_15 : decode cX5_fillSpares 15 = .ok (.getfield 48, 3) := by decide +kernel
theorem dX5_fillSpares_18 : decode cX5_fillSpares 18 = .ok (.getfield 114, 3) := by decide +kernel
theorem dX5_fillSpares_21 : decode cX5_fillSpares 21 = .ok (.if_icmp .ge 11, 3) := by decide +kernel
theorem dX5_fillSpares_24 : decode cX5_fillSpares 24 = .ok (.aload_n 0, 1) := by decide +kernel
theorem dX5_fillSpares_25 : decode cX5_fillSpares 25 = .ok (.iload_n 1, 1) := by decide +kernel
theorem dX5_fillSpares_26 : decode cX5_fillSpares 26 = .ok (.invokevirtual 91, 3) := by decide +kernel
theorem dX5_fillSpares_29 : decode cX5_fillSpares 29 = .ok (.goto 4, 3) := by decide +kernel
theorem dX5_fillSpares_32 : decode cX5_fillSpares 32 = .ok (.iconst 0, 1) := by decide +kernel
theorem dX5_fillSpares_33 : decode cX5_fillSpares 33 = .ok (.iastore, 1) := by decide +kernel
theorem dX5_fillSpares_34 : decode cX5_fillSpares 34 = .ok (.iinc 1 1, 3) := by decide +kernel
theorem dX5_fillSpares_37 : decode cX5_fillSpares 37 = .ok (.goto (-35), 3) := by decide +kernel
theorem dX5_fillSpares_40 : decode cX5_fillSpares 40 = .ok (.return_, 1) := by decide +kernel
theorem dX5_allSpare_0 : decode cX5_allSpare 0 = .ok (.iconst 0, 1) := by decide +kernel
theorem dX5_allSpare_1 : decode cX5_allSpare 1 = .ok (.istore_n 1, 1) := by decide +kernel
theorem dX5_allSpare_2 : decode cX5_allSpare 2 = .ok (.iconst 0, 1) := by decide +kernel
theorem dX5_allSpare_3 : decode cX5_allSpare 3 = .ok (.istore_n 2, 1) := by decide +kernel
theorem dX5_allSpare_4 : decode cX5_allSpare 4 = .ok (.iload_n 2, 1) := by decide +kernel
theorem dX5_allSpare_5 : decode cX5_allSpare 5 = .ok (.aload_n 0, 1) := by decide +kernel
theorem dX5_allSpare_6 : decode cX5_allSpare 6 = .ok (.getfield 48, 3) := by decide +kernel
theorem dX5_allSpare_9 : decode cX5_allSpare 9 = .ok (.getfield 114, 3) := by decide +kernel
theorem dX5_allSpare_12 : decode cX5_allSpare 12 = .ok (.if_icmp .ge 17, 3) := by decide +kernel
theorem dX5_allSpare_15 : decode cX5_allSpare 15 = .ok (.iload_n 1, 1) := by decide +kernel
theorem dX5_allSpare_16 : decode cX5_allSpare 16 = .ok (.aload_n 0, 1) := by decide +kernel
theorem dX5_allSpare_17 : decode cX5_allSpare 17 = .ok (.iload_n 2, 1) := by decide +kernel
theorem dX5_allSpare_18 : decode cX5_allSpare 18 = .ok (.invokevirtual 91, 3) := by decide +kernel
theorem dX5_allSpare_21 : decode cX5_allSpare 21 = .ok (.iadd, 1) := by decide +kernel
theorem dX5_allSpare_22 : decode cX5_allSpare 22 = .ok (.istore_n 1, 1) := by decide +kernel
theorem dX5_allSpare_23 : decode cX5_allSpare 23 = .ok (.iinc 2 1, 3) := by decide +kernel
theorem dX5_allSpare_26 : decode cX5_allSpare 26 = .ok (.goto (-22), 3) := by decide +kernel
theorem dX5_allSpare_29 : decode cX5_allSpare 29 = .ok (.iload_n 1, 1) := by decide +kernel
theorem dX5_allSpare_30 : decode cX5_allSpare 30 = .ok (.ireturn, 1) := by decide +kernel
theorem dX5_allTallies_0 : decode cX5_allTallies 0 = .ok (.iconst 0, 1) := by decide +kernel
theorem dX5_allTallies_1 : decode cX5_allTallies 1 = .ok (.istore_n 1, 1) := by decide +kernel
theorem dX5_allTallies_2 : decode cX5_allTallies 2 = .ok (.iconst 0, 1) := by decide +kernel
theorem dX5_allTallies_3 : decode cX5_allTallies 3 = .ok (.istore_n 2, 1) := by decide +kernel
theorem dX5_allTallies_4 : decode cX5_allTallies 4 = .ok (.iload_n 2, 1) := by decide +kernel
theorem dX5_allTallies_5 : decode cX5_allTallies 5 = .ok (.aload_n 0, 1) := by decide +kernel
theorem dX5_allTallies_6 : decode cX5_allTallies 6 = .ok (.getfield 48, 3) := by decide +kernel
theorem dX5_allTallies_9 : decode cX5_allTallies 9 = .ok (.getfield 114, 3) := by decide +kernel
theorem dX5_allTallies_12 : decode cX5_allTallies 12 = .ok (.if_icmp .ge 23, 3) := by decide +kernel
theorem dX5_allTallies_15 : decode cX5_allTallies 15 = .ok (.iload_n 1, 1) := by decide +kernel
theorem dX5_allTallies_16 : decode cX5_allTallies 16 = .ok (.aload_n 0, 1) := by decide +kernel
theorem dX5_allTallies_17 : decode cX5_allTallies 17 = .ok (.getfield 19, 3) := by decide +kernel
theorem dX5_allTallies_20 : decode cX5_allTallies 20 = .ok (.bipush 16, 2) := by decide +kernel
theorem dX5_allTallies_22 : decode cX5_allTallies 22 = .ok (.iload_n 2, 1) := by decide +kernel
theorem dX5_allTallies_23 : decode cX5_allTallies 23 = .ok (.iadd, 1) := by decide +kernel
theorem dX5_allTallies_24 : decode cX5_allTallies 24 = .ok (.invokevirtual 81, 3) := by decide +kernel
theorem dX5_allTallies_27 : decode cX5_allTallies 27 = .ok (.iadd, 1) := by decide +kernel
theorem dX5_allTallies_28 : decode cX5_allTallies 28 = .ok (.istore_n 1, 1) := by decide +kernel
theorem dX5_allTallies_29 : decode cX5_allTallies 29 = .ok (.iinc 2 1, 3) := by decide +kernel
theorem dX5_allTallies_32 : decode cX5_allTallies 32 = .ok (.goto (-28), 3) := by decide +kernel
theorem dX5_allTallies_35 : decode cX5_allTallies 35 = .ok (.iload_n 1, 1) := by decide +kernel
theorem dX5_allTallies_36 : decode cX5_allTallies 36 = .ok (.ireturn, 1) := by decide +kernel
theorem dX5_spareTogether_0 : decode cX5_spareTogether 0 = .ok (.iconst 0, 1) := by decide +kernel
theorem dX5_spareTogether_1 : decode cX5_spareTogether 1 = .ok (.istore_n 2, 1) := by decide +kernel
theorem dX5_spareTogether_2 : decode cX5_spareTogether 2 = .ok (.iconst 0, 1) := by decide +kernel
theorem dX5_spareTogether_3 : decode cX5_spareTogether 3 = .ok (.istore_n 3, 1) := by decide +kernel
theorem dX5_spareTogether_4 : decode cX5_spareTogether 4 = .ok (.iload_n 3, 1) := by decide +kernel
theorem dX5_spareTogether_5 : decode cX5_spareTogether 5 = .ok (.bipush 6, 2) := by decide +kernel
theorem dX5_spareTogether_7 : decode cX5_spareTogether 7 = .ok (.if_icmp .ge 26, 3) := by decide +kernel
theorem dX5_spareTogether_10 : decode cX5_spareTogether 10 = .ok (.iload_n 1, 1) := by decide +kernel
theorem dX5_spareTogether_11 : decode cX5_spareTogether 11 = .ok (.iload_n 3, 1) := by decide +kernel
theorem dX5_spareTogether_12 : decode cX5_spareTogether 12 = .ok (.ishr, 1) := by decide +kernel
theorem dX5_spareTogether_13 : decode cX5_spareTogether 13 = .ok (.iconst 1, 1) := by decide +kernel
theorem dX5_spareTogether_14 : decode cX5_spareTogether 14 = .ok (.iand, 1) := by decide +kernel
theorem dX5_spareTogether_15 : decode cX5_spareTogether 15 = .ok (.ifCond .eq 12, 3) := by decide +kernel
theorem dX5_spareTogether_18 : decode cX5_spareTogether 18 = .ok (.iload_n 2, 1) := by decide +kernel
theorem dX5_spareTogether_19 : decode cX5_spareTogether 19 = .ok (.aload_n 0, 1) := by decide +kernel
theorem dX5_spareTogether_20 : decode cX5_spareTogether 20 = .ok (.getfield 27, 3) := by decide +kernel
theorem dX5_spareTogether_23 : decode cX5_spareTogether 23 = .ok (.iload_n 3, 1) := by decide +kernel
theorem dX5_spareTogether_24 : decode cX5_spareTogether 24 = .ok (.iaload, 1) := by decide +kernel
theorem dX5_spareTogether_25 : decode cX5_spareTogether 25 = .ok (.iadd, 1) := by decide +kernel
theorem dX5_spareTogether_26 : decode cX5_spareTogether 26 = .ok (.istore_n 2, 1) := by decide +kernel
theorem dX5_spareTogether_27 : decode cX5_spareTogether 27 = .ok (.iinc 3 1, 3) := by decide +kernel
theorem dX5_spareTogether_30 : decode cX5_spareTogether 30 = .ok (.goto (-26), 3) := by decide +kernel
theorem dX5_spareTogether_33 : decode cX5_spareTogether 33 = .ok (.iload_n 2, 1) := by decide +kernel
theorem dX5_spareTogether_34 : decode cX5_spareTogether 34 = .ok (.ireturn, 1) := by decide +kernel
theorem dX5_fewestWith_0 : decode cX5_fewestWith 0 = .ok (.bipush (-9), 2) := by decide +kernel
theorem dX5_fewestWith_2 : decode cX5_fewestWith 2 = .ok (.istore_n 2, 1) := by decide +kernel
theorem dX5_fewestWith_3 : decode cX5_fewestWith 3 = .ok (.iconst 0, 1) := by decide +kernel
theorem dX5_fewestWith_4 : decode cX5_fewestWith 4 = .ok (.istore_n 3, 1) := by decide +kernel
theorem dX5_fewestWith_5 : decode cX5_fewestWith 5 = .ok (.iload_n 3, 1) := by decide +kernel
theorem dX5_fewestWith_6 : decode cX5_fewestWith 6 = .ok (.iconst 1, 1) := by decide +kernel
theorem dX5_fewestWith_7 : decode cX5_fewestWith 7 = .ok (.aload_n 0, 1) := by decide +kernel
theorem dX5_fewestWith_8 : decode cX5_fewestWith 8 = .ok (.getfield 48, 3) := by decide +kernel
theorem dX5_fewestWith_11 : decode cX5_fewestWith 11 = .ok (.getfield 114, 3) := by decide +kernel
theorem dX5_fewestWith_14 : decode cX5_fewestWith 14 = .ok (.ishl, 1) := by decide +kernel
theorem dX5_fewestWith_15 : decode cX5_fewestWith 15 = .ok (.if_icmp .ge 49, 3) := by decide +kernel
theorem dX5_fewestWith_18 : decode cX5_fewestWith 18 = .ok (.iload_n 2, 1) := by decide +kernel
theorem dX5_fewestWith_19 : decode cX5_fewestWith 19 = .ok (.bipush (-9), 2) := by decide +kernel
theorem dX5_fewestWith_21 : decode cX5_fewestWith 21 = .ok (.if_icmp .eq 14, 3) := by decide +kernel
theorem dX5_fewestWith_24 : decode cX5_fewestWith 24 = .ok (.iload_n 3, 1) := by decide +kernel
theorem dX5_fewestWith_25 : decode cX5_fewestWith 25 = .ok (.invokestatic 147, 3) := by decide +kernel
theorem dX5_fewestWith_28 : decode cX5_fewestWith 28 = .ok (.iload_n 2, 1) := by decide +kernel
theorem dX5_fewestWith_29 : decode cX5_fewestWith 29 = .ok (.invokestatic 147, 3) := by decide +kernel
theorem dX5_fewestWith_32 : decode cX5_fewestWith 32 = .ok (.if_icmp .ge 7, 3) := by decide +kernel
theorem dX5_fewestWith_35 : decode cX5_fewestWith 35 = .ok (.iconst 1, 1) := by decide +kernel
theorem dX5_fewestWith_36 : decode cX5_fewestWith 36 = .ok (.goto 4, 3) := by decide +kernel
theorem dX5_fewestWith_39 : decode cX5_fewestWith 39 = .ok (.iconst 0, 1) := by decide +kernel
theorem dX5_fewestWith_40 : decode cX5_fewestWith 40 = .ok (.istore 4, 2) := by decide +kernel
theorem dX5_fewestWith_42 : decode cX5_fewestWith 42 = .ok (.iload 4, 2) := by decide +kernel
theorem dX5_fewestWith_44 : decode cX5_fewestWith 44 = .ok (.ifCond .eq 14, 3) := by decide +kernel
theorem dX5_fewestWith_47 : decode cX5_fewestWith 47 = .ok (.aload_n 0, 1) := by decide +kernel
theorem dX5_fewestWith_48 : decode cX5_fewestWith 48 = .ok (.iload_n 3, 1) := by decide +kernel
theorem dX5_fewestWith_49 : decode cX5_fewestWith 49 = .ok (.invokevirtual 165, 3) := by decide +kernel
theorem dX5_fewestWith_52 : decode cX5_fewestWith 52 = .ok (.iload_n 1, 1) := by decide +kernel
theorem dX5_fewestWith_53 : decode cX5_fewestWith 53 = .ok (.if_icmp .lt 5, 3) := by decide +kernel
theorem dX5_fewestWith_56 : decode cX5_fewestWith 56 = .ok (.iload_n 3, 1) := by decide +kernel
theorem dX5_fewestWith_57 : decode cX5_fewestWith 57 = .ok (.istore_n 2, 1) := by decide +kernel
theorem dX5_fewestWith_58 : decode cX5_fewestWith 58 = .ok (.iinc 3 1, 3) := by decide +kernel
theorem dX5_fewestWith_61 : decode cX5_fewestWith 61 = .ok (.goto (-56), 3) := by decide +kernel
theorem dX5_fewestWith_64 : decode cX5_fewestWith 64 = .ok (.iload_n 2, 1) := by decide +kernel
theorem dX5_fewestWith_65 : decode cX5_fewestWith 65 = .ok (.ireturn, 1) := by decide +kernel
theorem dX5_chanceOf_0 : decode cX5_chanceOf 0 = .ok (.iconst 1, 1) := by decide +kernel
theorem dX5_chanceOf_1 : decode cX5_chanceOf 1 = .ok (.istore_n 3, 1) := by decide +kernel
theorem dX5_chanceOf_2 : decode cX5_chanceOf 2 = .ok (.iconst 0, 1) := by decide +kernel
theorem dX5_chanceOf_3 : decode cX5_chanceOf 3 = .ok (.istore 4, 2) := by decide +kernel
theorem dX5_chanceOf_5 : decode cX5_chanceOf 5 = .ok (.iload 4, 2) := by decide +kernel
theorem dX5_chanceOf_7 : decode cX5_chanceOf 7 = .ok (.aload_n 0, 1) := by decide +kernel
theorem dX5_chanceOf_8 : decode cX5_chanceOf 8 = .ok (.getfield 48, 3) := by decide +kernel
theorem dX5_chanceOf_11 : decode cX5_chanceOf 11 = .ok (.getfield 114, 3) := by decide +kernel
theorem dX5_chanceOf_14 : decode cX5_chanceOf 14 = .ok (.if_icmp .ge 29, 3) := by decide +kernel
theorem dX5_chanceOf_17 : decode cX5_chanceOf 17 = .ok (.iload_n 3, 1) := by decide +kernel
theorem dX5_chanceOf_18 : decode cX5_chanceOf 18 = .ok (.iload_n 1, 1) := by decide +kernel
theorem dX5_chanceOf_19 : decode cX5_chanceOf 19 = .ok (.iload 4, 2) := by decide +kernel
theorem dX5_chanceOf_21 : decode cX5_chanceOf 21 = .ok (.ishr, 1) := by decide +kernel
theorem dX5_chanceOf_22 : decode cX5_chanceOf 22 = .ok (.iconst 1, 1) := by decide +kernel
theorem dX5_chanceOf_23 : decode cX5_chanceOf 23 = .ok (.iand, 1) := by decide +kernel
theorem dX5_chanceOf_24 : decode cX5_chanceOf 24 = .ok (.ifCond .eq 10, 3) := by decide +kernel
theorem dX5_chanceOf_27 : decode cX5_chanceOf 27 = .ok (.bipush 10, 2) := by decide +kernel
theorem dX5_chanceOf_29 : decode cX5_chanceOf 29 = .ok (.iload_n 2, 1) := by decide +kernel
theorem dX5_chanceOf_30 : decode cX5_chanceOf 30 = .ok (.isub, 1) := by decide +kernel
theorem dX5_chanceOf_31 : decode cX5_chanceOf 31 = .ok (.goto 4, 3) := by decide +kernel
theorem dX5_chanceOf_34 : decode cX5_chanceOf 34 = .ok (.iload_n 2, 1) := by decide +kernel
theorem dX5_chanceOf_35 : decode cX5_chanceOf 35 = .ok (.imul, 1) := by decide +kernel
theorem dX5_chanceOf_36 : decode cX5_chanceOf 36 = .ok (.istore_n 3, 1) := by decide +kernel
theorem dX5_chanceOf_37 : decode cX5_chanceOf 37 = .ok (.iinc 4 1, 3) := by decide +kernel
theorem dX5_chanceOf_40 : decode cX5_chanceOf 40 = .ok (.goto (-35), 3) := by decide +kernel
theorem dX5_chanceOf_43 : decode cX5_chanceOf 43 = .ok (.iload_n 3, 1) := by decide +kernel
theorem dX5_chanceOf_44 : decode cX5_chanceOf 44 = .ok (.ireturn, 1) := by decide +kernel
theorem dX5_partOfFraction_0 : decode cX5_partOfFraction 0 = .ok (.iload_n 0, 1) := by decide +kernel
theorem dX5_partOfFraction_1 : decode cX5_partOfFraction 1 = .ok (.iload_n 1, 1) := by decide +kernel
theorem dX5_partOfFraction_2 : decode cX5_partOfFraction 2 = .ok (.invokestatic 217, 3) := by decide +kernel
theorem dX5_partOfFraction_5 : decode cX5_partOfFraction 5 = .ok (.istore_n 3, 1) := by decide +kernel
theorem dX5_partOfFraction_6 : decode cX5_partOfFraction 6 = .ok (.iload_n 3, 1) := by decide +kernel
theorem dX5_partOfFraction_7 : decode cX5_partOfFraction 7 = .ok (.iconst 1, 1) := by decide +kernel
theorem dX5_partOfFraction_8 : decode cX5_partOfFraction 8 = .ok (.if_icmp .ge 5, 3) := by decide +kernel
theorem dX5_partOfFraction_11 : decode cX5_partOfFraction 11 = .ok (.iconst 0, 1) := by decide +kernel
theorem dX5_partOfFraction_12 : decode cX5_partOfFraction 12 = .ok (.ireturn, 1) := by decide +kernel
theorem dX5_partOfFraction_13 : decode cX5_partOfFraction 13 = .ok (.iload_n 2, 1) := by decide +kernel
theorem dX5_partOfFraction_14 : decode cX5_partOfFraction 14 = .ok (.ifCond .ne 7, 3) := by decide +kernel
theorem dX5_partOfFraction_17 : decode cX5_partOfFraction 17 = .ok (.iload_n 0, 1) := by decide +kernel
theorem dX5_partOfFraction_18 : decode cX5_partOfFraction 18 = .ok (.goto 4, 3) := by decide +kernel
theorem dX5_partOfFraction_21 : decode cX5_partOfFraction 21 = .ok (.iload_n 1, 1) := by decide +kernel
theorem dX5_partOfFraction_22 : decode cX5_partOfFraction 22 = .ok (.iload_n 3, 1) := by decide +kernel
theorem dX5_partOfFraction_23 : decode cX5_partOfFraction 23 = .ok (.idiv, 1) := by decide +kernel
theorem dX5_partOfFraction_24 : decode cX5_partOfFraction 24 = .ok (.ireturn, 1) := by decide +kernel
theorem dX5_greatestDivisor_0 : decode cX5_greatestDivisor 0 = .ok (.iload_n 0, 1) := by decide +kernel
theorem dX5_greatestDivisor_1 : decode cX5_greatestDivisor 1 = .ok (.istore_n 2, 1) := by decide +kernel
theorem dX5_greatestDivisor_2 : decode cX5_greatestDivisor 2 = .ok (.iload_n 1, 1) := by decide +kernel
theorem dX5_greatestDivisor_3 : decode cX5_greatestDivisor 3 = .ok (.istore_n 3, 1) := by decide +kernel
theorem dX5_greatestDivisor_4 : decode cX5_greatestDivisor 4 = .ok (.iconst 0, 1) := by decide +kernel
theorem dX5_greatestDivisor_5 : decode cX5_greatestDivisor 5 = .ok (.istore 4, 2) := by decide +kernel
theorem dX5_greatestDivisor_7 : decode cX5_greatestDivisor 7 = .ok (.iload 4, 2) := by decide +kernel
theorem dX5_greatestDivisor_9 : decode cX5_greatestDivisor 9 = .ok (.bipush 64, 2) := by decide +kernel
theorem dX5_greatestDivisor_11 : decode cX5_greatestDivisor 11 = .ok (.if_icmp .ge 23, 3) := by decide +kernel
theorem dX5_greatestDivisor_14 : decode cX5_greatestDivisor 14 = .ok (.iload_n 3, 1) := by decide +kernel
theorem dX5_greatestDivisor_15 : decode cX5_greatestDivisor 15 = .ok (.ifCond .eq 19, 3) := by decide +kernel
theorem dX5_greatestDivisor_18 : decode cX5_greatestDivisor 18 = .ok (.iload_n 2, 1) := by decide +kernel
theorem dX5_greatestDivisor_19 : decode cX5_greatestDivisor 19 = .ok (.iload_n 3, 1) := by decide +kernel
theorem dX5_greatestDivisor_20 : decode cX5_greatestDivisor 20 = .ok (.irem, 1) := by decide +kernel
theorem dX5_greatestDivisor_21 : decode cX5_greatestDivisor 21 = .ok (.istore 5, 2) := by decide +kernel
theorem dX5_greatestDivisor_23 : decode cX5_greatestDivisor 23 = .ok (.iload_n 3, 1) := by decide +kernel
theorem dX5_greatestDivisor_24 : decode cX5_greatestDivisor 24 = .ok (.istore_n 2, 1) := by decide +kernel
theorem dX5_greatestDivisor_25 : decode cX5_greatestDivisor 25 = .ok (.iload 5, 2) := by decide +kernel
theorem dX5_greatestDivisor_27 : decode cX5_greatestDivisor 27 = .ok (.istore_n 3, 1) := by decide +kernel
theorem dX5_greatestDivisor_28 : decode cX5_greatestDivisor 28 = .ok (.iinc 4 1, 3) := by decide +kernel
theorem dX5_greatestDivisor_31 : decode cX5_greatestDivisor 31 = .ok (.goto (-24), 3) := by decide +kernel
theorem dX5_greatestDivisor_34 : decode cX5_greatestDivisor 34 = .ok (.iload_n 2, 1) := by decide +kernel
theorem dX5_greatestDivisor_35 : decode cX5_greatestDivisor 35 = .ok (.ireturn, 1) := by decide +kernel
theorem dX5_villageHas_0 : decode cX5_villageHas 0 = .ok (.iload_n 0, 1) := by decide +kernel
theorem dX5_villageHas_1 : decode cX5_villageHas 1 = .ok (.ifCond .ne 6, 3) := by decide +kernel
theorem dX5_villageHas_4 : decode cX5_villageHas 4 = .ok (.iload_n 2, 1) := by decide +kernel
theorem dX5_villageHas_5 : decode cX5_villageHas 5 = .ok (.ineg, 1) := by decide +kernel
theorem dX5_villageHas_6 : decode cX5_villageHas 6 = .ok (.ireturn, 1) := by decide +kernel
theorem dX5_villageHas_7 : decode cX5_villageHas 7 = .ok (.iload_n 1, 1) := by decide +kernel
theorem dX5_villageHas_8 : decode cX5_villageHas 8 = .ok (.ifCond .eq 10, 3) := by decide +kernel
theorem dX5_villageHas_11 : decode cX5_villageHas 11 = .ok (.iload_n 2, 1) := by decide +kernel
theorem dX5_villageHas_12 : decode cX5_villageHas 12 = .ok (.iload_n 3, 1) := by decide +kernel
theorem dX5_villageHas_13 : decode cX5_villageHas 13 = .ok (.iadd, 1) := by decide +kernel
theorem dX5_villageHas_14 : decode cX5_villageHas 14 = .ok (.ineg, 1) := by decide +kernel
theorem dX5_villageHas_15 : decode cX5_villageHas 15 = .ok (.goto 4, 3) := by decide +kernel
theorem dX5_villageHas_18 : decode cX5_villageHas 18 = .ok (.iconst 0, 1) := by decide +kernel
theorem dX5_villageHas_19 : decode cX5_villageHas 19 = .ok (.ireturn, 1) := by decide +kernel
theorem dX5_buyerHas_0 : decode cX5_buyerHas 0 = .ok (.iload_n 0, 1) := by decide +kernel
theorem dX5_buyerHas_1 : decode cX5_buyerHas 1 = .ok (.ifCond .eq 11, 3) := by decide +kernel
theorem dX5_buyerHas_4 : decode cX5_buyerHas 4 = .ok (.iload_n 1, 1) := by decide +kernel
theorem dX5_buyerHas_5 : decode cX5_buyerHas 5 = .ok (.ifCond .ne 7, 3) := by decide +kernel
theorem dX5_buyerHas_8 : decode cX5_buyerHas 8 = .ok (.iconst 0, 1) := by decide +kernel
theorem dX5_buyerHas_9 : decode cX5_buyerHas 9 = .ok (.goto 4, 3) := by decide +kernel
theorem dX5_buyerHas_12 : decode cX5_buyerHas 12 = .ok (.iload_n 2, 1) := by decide +kernel
theorem dX5_buyerHas_13 : decode cX5_buyerHas 13 = .ok (.istore 4, 2) := by decide +kernel
theorem dX5_buyerHas_15 : decode cX5_buyerHas 15 = .ok (.iload_n 1, 1) := by decide +kernel
theorem dX5_buyerHas_16 : decode cX5_buyerHas 16 = .ok (.ifCond .eq 10, 3) := by decide +kernel
theorem dX5_buyerHas_19 : decode cX5_buyerHas 19 = .ok (.iload 4, 2) := by decide +kernel
theorem dX5_buyerHas_21 : decode cX5_buyerHas 21 = .ok (.iload_n 3, 1) := by decide +kernel
theorem dX5_buyerHas_22 : decode cX5_buyerHas 22 = .ok (.isub, 1) := by decide +kernel
theorem dX5_buyerHas_23 : decode cX5_buyerHas 23 = .ok (.goto 5, 3) := by decide +kernel
theorem dX5_buyerHas_26 : decode cX5_buyerHas 26 = .ok (.iload 4, 2) := by decide +kernel
theorem dX5_buyerHas_28 : decode cX5_buyerHas 28 = .ok (.ireturn, 1) := by decide +kernel
theorem dX5_askKind_0 : decode cX5_askKind 0 = .ok (.iload_n 1, 1) := by decide +kernel
theorem dX5_askKind_1 : decode cX5_askKind 1 = .ok (.iconst 0, 1) := by decide +kernel
theorem dX5_askKind_2 : decode cX5_askKind 2 = .ok (.iconst 5, 1) := by decide +kernel
theorem dX5_askKind_3 : decode cX5_askKind 3 = .ok (.invokestatic 59, 3) := by decide +kernel
theorem dX5_askKind_6 : decode cX5_askKind 6 = .ok (.ifCond .eq 8, 3) := by decide +kernel
theorem dX5_askKind_9 : decode cX5_askKind 9 = .ok (.iload_n 3, 1) := by decide +kernel
theorem dX5_askKind_10 : decode cX5_askKind 10 = .ok (.iconst 5, 1) := by decide +kernel
theorem dX5_askKind_11 : decode cX5_askKind 11 = .ok (.if_icmp .le 5, 3) := by decide +kernel
theorem dX5_askKind_14 : decode cX5_askKind 14 = .ok (.iconst 0, 1) := by decide +kernel
theorem dX5_askKind_15 : decode cX5_askKind 15 = .ok (.ireturn, 1) := by decide +kernel
theorem dX5_askKind_16 : decode cX5_askKind 16 = .ok (.aload_n 0, 1) := by decide +kernel
theorem dX5_askKind_17 : decode cX5_askKind 17 = .ok (.dup, 1) := by decide +kernel
theorem dX5_askKind_18 : decode cX5_askKind 18 = .ok (.getfield 205, 3) := by decide +kernel
theorem dX5_askKind_21 : decode cX5_askKind 21 = .ok (.getstatic 220, 3) := by decide +kernel
theorem dX5_askKind_24 : decode cX5_askKind 24 = .ok (.iload_n 1, 1) := by decide +kernel
theorem dX5_askKind_25 : decode cX5_askKind 25 = .ok (.iaload, 1) := by decide +kernel
theorem dX5_askKind_26 : decode cX5_askKind 26 = .ok (.i2l, 1) := by decide +kernel
theorem dX5_askKind_27 : decode cX5_askKind 27 = .ok (.ladd, 1) := by decide +kernel
theorem dX5_askKind_28 : decode cX5_askKind 28 = .ok (.putfield 205, 3) := by decide +kernel
theorem dX5_askKind_31 : decode cX5_askKind 31 = .ok (.iload_n 1, 1) := by decide +kernel
theorem dX5_askKind_32 : decode cX5_askKind 32 = .ok (.ifCond .ne 14, 3) := by decide +kernel
theorem dX5_askKind_35 : decode cX5_askKind 35 = .ok (.aload_n 0, 1) := by decide +kernel
theorem dX5_askKind_36 : decode cX5_askKind 36 = .ok (.getfield 19, 3) := by decide +kernel
theorem dX5_askKind_39 : decode cX5_askKind 39 = .ok (.iconst 4, 1) := by decide +kernel
theorem dX5_askKind_40 : decode cX5_askKind 40 = .ok (.iload_n 2, 1) := by decide +kernel
theorem dX5_askKind_41 : decode cX5_askKind 41 = .ok (.iadd, 1) := by decide +kernel
theorem dX5_askKind_42 : decode cX5_askKind 42 = .ok (.invokevirtual 81, 3) := by decide +kernel
theorem dX5_askKind_45 : decode cX5_askKind 45 = .ok (.ireturn, 1) := by decide +kernel
theorem dX5_askKind_46 : decode cX5_askKind 46 = .ok (.aload_n 0, 1) := by decide +kernel
theorem dX5_askKind_47 : decode cX5_askKind 47 = .ok (.getstatic 223, 3) := by decide +kernel
theorem dX5_askKind_50 : decode cX5_askKind 50 = .ok (.iload_n 1, 1) := by decide +kernel
theorem dX5_askKind_51 : decode cX5_askKind 51 = .ok (.iaload, 1) := by decide +kernel
theorem dX5_askKind_52 : decode cX5_askKind 52 = .ok (.iload_n 2, 1) := by decide +kernel
theorem dX5_askKind_53 : decode cX5_askKind 53 = .ok (.iload_n 3, 1) := by decide +kernel
theorem dX5_askKind_54 : decode cX5_askKind 54 = .ok (.iconst 1, 1) := by decide +kernel
theorem dX5_askKind_55 : decode cX5_askKind 55 = .ok (.iadd, 1) := by decide +kernel
theorem dX5_askKind_56 : decode cX5_askKind 56 = .ok (.invokevirtual 192, 3) := by decide +kernel
theorem dX5_askKind_59 : decode cX5_askKind 59 = .ok (.istore 4, 2) := by decide +kernel
theorem dX5_askKind_61 : decode cX5_askKind 61 = .ok (.iload_n 1, 1) := by decide +kernel
theorem dX5_askKind_62 : decode cX5_askKind 62 = .ok (.tableswitch 77 1 4 #[30, 45, 57, 62], 30) := by decide +kernel
theorem dX5_askKind_92 : decode cX5_askKind 92 = .ok (.iload 4, 2) := by decide +kernel
theorem dX5_askKind_94 : decode cX5_askKind 94 = .ok (.aload_n 0, 1) := by decide +kernel
theorem dX5_askKind_95 : decode cX5_askKind 95 = .ok (.getfield 19, 3) := by decide +kernel
theorem dX5_askKind_98 : decode cX5_askKind 98 = .ok (.bipush 10, 2) := by decide +kernel
theorem dX5_askKind_100 : decode cX5_askKind 100 = .ok (.iload_n 2, 1) := by decide +kernel
theorem dX5_askKind_101 : decode cX5_askKind 101 = .ok (.iadd, 1) := by decide +kernel
theorem dX5_askKind_102 : decode cX5_askKind 102 = .ok (.invokevirtual 81, 3) := by decide +kernel
theorem dX5_askKind_105 : decode cX5_askKind 105 = .ok (.iadd, 1) := by decide +kernel
theorem dX5_askKind_106 : decode cX5_askKind 106 = .ok (.ireturn, 1) := by decide +kernel
theorem dX5_askKind_107 : decode cX5_askKind 107 = .ok (.iload 4, 2) := by decide +kernel
theorem dX5_askKind_109 : decode cX5_askKind 109 = .ok (.aload_n 0, 1) := by decide +kernel
theorem dX5_askKind_110 : decode cX5_askKind 110 = .ok (.getfield 48, 3) := by decide +kernel
theorem dX5_askKind_113 : decode cX5_askKind 113 = .ok (.iload_n 2, 1) := by decide +kernel
theorem dX5_askKind_114 : decode cX5_askKind 114 = .ok (.invokevirtual 85, 3) := by decide +kernel
theorem dX5_askKind_117 : decode cX5_askKind 117 = .ok (.isub, 1) := by decide +kernel
theorem dX5_askKind_118 : decode cX5_askKind 118 = .ok (.ireturn, 1) := by decide +kernel
theorem dX5_askKind_119 : decode cX5_askKind 119 = .ok (.iload 4, 2) := by decide +kernel
theorem dX5_askKind_121 : decode cX5_askKind 121 = .ok (.iconst 2, 1) := by decide +kernel
theorem dX5_askKind_122 : decode cX5_askKind 122 = .ok (.imul, 1) := by decide +kernel
theorem dX5_askKind_123 : decode cX5_askKind 123 = .ok (.ireturn, 1) := by decide +kernel
theorem dX5_askKind_124 : decode cX5_askKind 124 = .ok (.iload 4, 2) := by decide +kernel
theorem dX5_askKind_126 : decode cX5_askKind 126 = .ok (.aload_n 0, 1) := by decide +kernel
theorem dX5_askKind_127 : decode cX5_askKind 127 = .ok (.getfield 19, 3) := by decide +kernel
theorem dX5_askKind_130 : decode cX5_askKind 130 = .ok (.bipush 22, 2) := by decide +kernel
theorem dX5_askKind_132 : decode cX5_askKind 132 = .ok (.iload_n 2, 1) := by decide +kernel
theorem dX5_askKind_133 : decode cX5_askKind 133 = .ok (.iadd, 1) := by decide +kernel
theorem dX5_askKind_134 : decode cX5_askKind 134 = .ok (.invokevirtual 81, 3) := by decide +kernel
theorem dX5_askKind_137 : decode cX5_askKind 137 = .ok (.iadd, 1) := by decide +kernel
theorem dX5_askKind_138 : decode cX5_askKind 138 = .ok (.ireturn, 1) := by decide +kernel
theorem dX5_askKind_139 : decode cX5_askKind 139 = .ok (.iload 4, 2) := by decide +kernel
theorem dX5_askKind_141 : decode cX5_askKind 141 = .ok (.aload_n 0, 1) := by decide +kernel
theorem dX5_askKind_142 : decode cX5_askKind 142 = .ok (.getfield 19, 3) := by decide +kernel
theorem dX5_askKind_145 : decode cX5_askKind 145 = .ok (.bipush 16, 2) := by decide +kernel
theorem dX5_askKind_147 : decode cX5_askKind 147 = .ok (.iload_n 2, 1) := by decide +kernel
theorem dX5_askKind_148 : decode cX5_askKind 148 = .ok (.iadd, 1) := by decide +kernel
theorem dX5_askKind_149 : decode cX5_askKind 149 = .ok (.invokevirtual 81, 3) := by decide +kernel
theorem dX5_askKind_152 : decode cX5_askKind 152 = .ok (.iadd, 1) := by decide +kernel
theorem dX5_askKind_153 : decode cX5_askKind 153 = .ok (.ireturn, 1) := by decide +kernel
