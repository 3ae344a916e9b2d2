theorem dX6_shift_28 : decode cX6_shift 28 = .ok (.iload_n 2, 1) := by decide +kernel
theorem dX6_shift_29 : decode cX6_shift 29 = .ok (.if_icmp .ge 6, 3) := by decide +kernel
theorem dX6_shift_32 : decode cX6_shift 32 = .ok (.bipush (-2), 2) := by decide +kernel
theorem dX6_shift_34 : decode cX6_shift 34 = .ok (.ireturn, 1) := by decide +kernel
theorem dX6_shift_35 : decode cX6_shift 35 = .ok (.aload_n 0, 1) := by decide +kernel
theorem dX6_shift_36 : decode cX6_shift 36 = .ok (.invokevirtual 113, 3) := by decide +kernel
theorem dX6_shift_39 : decode cX6_shift 39 = .ok (.aload_n 0, 1) := by decide +kernel
theorem dX6_shift_40 : decode cX6_shift 40 = .ok (.getfield 38, 3) := by decide +kernel
theorem dX6_shift_43 : decode cX6_shift 43 = .ok (.iload_n 3, 1) := by decide +kernel
theorem dX6_shift_44 : decode cX6_shift 44 = .ok (.iload_n 1, 1) := by decide +kernel
theorem dX6_shift_45 : decode cX6_shift 45 = .ok (.iadd, 1) := by decide +kernel
theorem dX6_shift_46 : decode cX6_shift 46 = .ok (.dup2, 1) := by decide +kernel
theorem dX6_shift_47 : decode cX6_shift 47 = .ok (.iaload, 1) := by decide +kernel
theorem dX6_shift_48 : decode cX6_shift 48 = .ok (.iload_n 2, 1) := by decide +kernel
theorem dX6_shift_49 : decode cX6_shift 49 = .ok (.isub, 1) := by decide +kernel
theorem dX6_shift_50 : decode cX6_shift 50 = .ok (.iastore, 1) := by decide +kernel
theorem dX6_shift_51 : decode cX6_shift 51 = .ok (.aload_n 0, 1) := by decide +kernel
theorem dX6_shift_52 : decode cX6_shift 52 = .ok (.getfield 38, 3) := by decide +kernel
theorem dX6_shift_55 : decode cX6_shift 55 = .ok (.iload 4, 2) := by decide +kernel
theorem dX6_shift_57 : decode cX6_shift 57 = .ok (.iload_n 1, 1) := by decide +kernel
theorem dX6_shift_58 : decode cX6_shift 58 = .ok (.iadd, 1) := by decide +kernel
theorem dX6_shift_59 : decode cX6_shift 59 = .ok (.dup2, 1) := by decide +kernel
theorem dX6_shift_60 : decode cX6_shift 60 = .ok (.iaload, 1) := by decide +kernel
theorem dX6_shift_61 : decode cX6_shift 61 = .ok (.iload_n 2, 1) := by decide +kernel
theorem dX6_shift_62 : decode cX6_shift 62 = .ok (.iadd, 1) := by decide +kernel
theorem dX6_shift_63 : decode cX6_shift 63 = .ok (.iastore, 1) := by decide +kernel
theorem dX6_shift_64 : decode cX6_shift 64 = .ok (.aload_n 0, 1) := by decide +kernel
theorem dX6_shift_65 : decode cX6_shift 65 = .ok (.getfield 38, 3) := by decide +kernel
theorem dX6_shift_68 : decode cX6_shift 68 = .ok (.iload 4, 2) := by decide +kernel
theorem dX6_shift_70 : decode cX6_shift 70 = .ok (.iload_n 1, 1) := by decide +kernel
theorem dX6_shift_71 : decode cX6_shift 71 = .ok (.iadd, 1) := by decide +kernel
theorem dX6_shift_72 : decode cX6_shift 72 = .ok (.iaload, 1) := by decide +kernel
theorem dX6_shift_73 : decode cX6_shift 73 = .ok (.ireturn, 1) := by decide +kernel
theorem dX6_hides_0 : decode cX6_hides 0 = .ok (.aload_n 0, 1) := by decide +kernel
theorem dX6_hides_1 : decode cX6_hides 1 = .ok (.iload_n 1, 1) := by decide +kernel
theorem dX6_hides_2 : decode cX6_hides 2 = .ok (.iload_n 2, 1) := by decide +kernel
theorem dX6_hides_3 : decode cX6_hides 3 = .ok (.iconst 4, 1) := by decide +kernel
theorem dX6_hides_4 : decode cX6_hides 4 = .ok (.bipush 10, 2) := by decide +kernel
theorem dX6_hides_6 : decode cX6_hides 6 = .ok (.invokevirtual 119, 3) := by decide +kernel
theorem dX6_hides_9 : decode cX6_hides 9 = .ok (.ireturn, 1) := by decide +kernel
theorem dX6_shows_0 : decode cX6_shows 0 = .ok (.aload_n 0, 1) := by decide +kernel
theorem dX6_shows_1 : decode cX6_shows 1 = .ok (.iload_n 1, 1) := by decide +kernel
theorem dX6_shows_2 : decode cX6_shows 2 = .ok (.iload_n 2, 1) := by decide +kernel
theorem dX6_shows_3 : decode cX6_shows 3 = .ok (.bipush 10, 2) := by decide +kernel
theorem dX6_shows_5 : decode cX6_shows 5 = .ok (.iconst 4, 1) := by decide +kernel
theorem dX6_shows_6 : decode cX6_shows 6 = .ok (.invokevirtual 119, 3) := by decide +kernel
theorem dX6_shows_9 : decode cX6_shows 9 = .ok (.ireturn, 1) := by decide +kernel
theorem dX6_pays_0 : decode cX6_pays 0 = .ok (.aload_n 0, 1) := by decide +kernel
theorem dX6_pays_1 : decode cX6_pays 1 = .ok (.iload_n 1, 1) := by decide +kernel
theorem dX6_pays_2 : decode cX6_pays 2 = .ok (.invokevirtual 107, 3) := by decide +kernel
theorem dX6_pays_5 : decode cX6_pays 5 = .ok (.ifCond .ne 5, 3) := by decide +kernel
theorem dX6_pays_8 : decode cX6_pays 8 = .ok (.iconst (-1), 1) := by decide +kernel
theorem dX6_pays_9 : decode cX6_pays 9 = .ok (.ireturn, 1) := by decide +kernel
theorem dX6_pays_10 : decode cX6_pays 10 = .ok (.aload_n 0, 1) := by decide +kernel
theorem dX6_pays_11 : decode cX6_pays 11 = .ok (.invokevirtual 113, 3) := by decide +kernel
theorem dX6_pays_14 : decode cX6_pays 14 = .ok (.aload_n 0, 1) := by decide +kernel
theorem dX6_pays_15 : decode cX6_pays 15 = .ok (.getfield 38, 3) := by decide +kernel
theorem dX6_pays_18 : decode cX6_pays 18 = .ok (.bipush 16, 2) := by decide +kernel
theorem dX6_pays_20 : decode cX6_pays 20 = .ok (.iload_n 1, 1) := by decide +kernel
theorem dX6_pays_21 : decode cX6_pays 21 = .ok (.iadd, 1) := by decide +kernel
theorem dX6_pays_22 : decode cX6_pays 22 = .ok (.iaload, 1) := by decide +kernel
theorem dX6_pays_23 : decode cX6_pays 23 = .ok (.istore_n 2, 1) := by decide +kernel
theorem dX6_pays_24 : decode cX6_pays 24 = .ok (.aload_n 0, 1) := by decide +kernel
theorem dX6_pays_25 : decode cX6_pays 25 = .ok (.getfield 38, 3) := by decide +kernel
theorem dX6_pays_28 : decode cX6_pays 28 = .ok (.bipush 16, 2) := by decide +kernel
theorem dX6_pays_30 : decode cX6_pays 30 = .ok (.iload_n 1, 1) := by decide +kernel
theorem dX6_pays_31 : decode cX6_pays 31 = .ok (.iadd, 1) := by decide +kernel
theorem dX6_pays_32 : decode cX6_pays 32 = .ok (.iconst 0, 1) := by decide +kernel
theorem dX6_pays_33 : decode cX6_pays 33 = .ok (.iastore, 1) := by decide +kernel
theorem dX6_pays_34 : decode cX6_pays 34 = .ok (.iload_n 2, 1) := by decide +kernel
theorem dX6_pays_35 : decode cX6_pays 35 = .ok (.ireturn, 1) := by decide +kernel
theorem dX6_sells_0 : decode cX6_sells 0 = .ok (.aload_n 0, 1) := by decide +kernel
theorem dX6_sells_1 : decode cX6_sells 1 = .ok (.iload_n 1, 1) := by decide +kernel
theorem dX6_sells_2 : decode cX6_sells 2 = .ok (.invokevirtual 107, 3) := by decide +kernel
theorem dX6_sells_5 : decode cX6_sells 5 = .ok (.ifCond .eq 13, 3) := by decide +kernel
theorem dX6_sells_8 : decode cX6_sells 8 = .ok (.iload_n 2, 1) := by decide +kernel
theorem dX6_sells_9 : decode cX6_sells 9 = .ok (.iconst 1, 1) := by decide +kernel
theorem dX6_sells_10 : decode cX6_sells 10 = .ok (.bipush 99, 2) := by decide +kernel
theorem dX6_sells_12 : decode cX6_sells 12 = .ok (.invokestatic 54, 3) := by decide +kernel
theorem dX6_sells_15 : decode cX6_sells 15 = .ok (.ifCond .ne 5, 3) := by decide +kernel
theorem dX6_sells_18 : decode cX6_sells 18 = .ok (.iconst (-1), 1) := by decide +kernel
theorem dX6_sells_19 : decode cX6_sells 19 = .ok (.ireturn, 1) := by decide +kernel
theorem dX6_sells_20 : decode cX6_sells 20 = .ok (.aload_n 0, 1) := by decide +kernel
theorem dX6_sells_21 : decode cX6_sells 21 = .ok (.getfield 38, 3) := by decide +kernel
theorem dX6_sells_24 : decode cX6_sells 24 = .ok (.bipush 16, 2) := by decide +kernel
theorem dX6_sells_26 : decode cX6_sells 26 = .ok (.iload_n 1, 1) := by decide +kernel
theorem dX6_sells_27 : decode cX6_sells 27 = .ok (.iadd, 1) := by decide +kernel
theorem dX6_sells_28 : decode cX6_sells 28 = .ok (.iaload, 1) := by decide +kernel
theorem dX6_sells_29 : decode cX6_sells 29 = .ok (.iload_n 2, 1) := by decide +kernel
theorem dX6_sells_30 : decode cX6_sells 30 = .ok (.if_icmp .ge 6, 3) := by decide +kernel
theorem dX6_sells_33 : decode cX6_sells 33 = .ok (.bipush (-2), 2) := by decide +kernel
theorem dX6_sells_35 : decode cX6_sells 35 = .ok (.ireturn, 1) := by decide +kernel
theorem dX6_sells_36 : decode cX6_sells 36 = .ok (.aload_n 0, 1) := by decide +kernel
theorem dX6_sells_37 : decode cX6_sells 37 = .ok (.invokevirtual 113, 3) := by decide +kernel
theorem dX6_sells_40 : decode cX6_sells 40 = .ok (.aload_n 0, 1) := by decide +kernel
theorem dX6_sells_41 : decode cX6_sells 41 = .ok (.getfield 38, 3) := by decide +kernel
theorem dX6_sells_44 : decode cX6_sells 44 = .ok (.bipush 16, 2) := by decide +kernel
theorem dX6_sells_46 : decode cX6_sells 46 = .ok (.iload_n 1, 1) := by decide +kernel
theorem dX6_sells_47 : decode cX6_sells 47 = .ok (.iadd, 1) := by decide +kernel
theorem dX6_sells_48 : decode cX6_sells 48 = .ok (.dup2, 1) := by decide +kernel
theorem dX6_sells_49 : decode cX6_sells 49 = .ok (.iaload, 1) := by decide +kernel
theorem dX6_sells_50 : decode cX6_sells 50 = .ok (.iload_n 2, 1) := by decide +kernel
theorem dX6_sells_51 : decode cX6_sells 51 = .ok (.isub, 1) := by decide +kernel
theorem dX6_sells_52 : decode cX6_sells 52 = .ok (.iastore, 1) := by decide +kernel
theorem dX6_sells_53 : decode cX6_sells 53 = .ok (.aload_n 0, 1) := by decide +kernel
theorem dX6_sells_54 : decode cX6_sells 54 = .ok (.getfield 38, 3) := by decide +kernel
theorem dX6_sells_57 : decode cX6_sells 57 = .ok (.bipush 22, 2) := by decide +kernel
theorem dX6_sells_59 : decode cX6_sells 59 = .ok (.iload_n 1, 1) := by decide +kernel
theorem dX6_sells_60 : decode cX6_sells 60 = .ok (.iadd, 1) := by decide +kernel
theorem dX6_sells_61 : decode cX6_sells 61 = .ok (.dup2, 1) := by decide +kernel
theorem dX6_sells_62 : decode cX6_sells 62 = .ok (.iaload, 1) := by decide +kernel
theorem dX6_sells_63 : decode cX6_sells 63 = .ok (.iload_n 2, 1) := by decide +kernel
theorem dX6_sells_64 : decode cX6_sells 64 = .ok (.iconst 3, 1) := by decide +kernel
theorem dX6_sells_65 : decode cX6_sells 65 = .ok (.idiv, 1) := by decide +kernel
theorem dX6_sells_66 : decode cX6_sells 66 = .ok (.iadd, 1) := by decide +kernel
theorem dX6_sells_67 : decode cX6_sells 67 = .ok (.iastore, 1) := by decide +kernel
theorem dX6_sells_68 : decode cX6_sells 68 = .ok (.aload_n 0, 1) := by decide +kernel
theorem dX6_sells_69 : decode cX6_sells 69 = .ok (.getfield 38, 3) := by decide +kernel
theorem dX6_sells_72 : decode cX6_sells 72 = .ok (.bipush 22, 2) := by decide +kernel
theorem dX6_sells_74 : decode cX6_sells 74 = .ok (.iload_n 1, 1) := by decide +kernel
theorem dX6_sells_75 : decode cX6_sells 75 = .ok (.iadd, 1) := by decide +kernel
theorem dX6_sells_76 : decode cX6_sells 76 = .ok (.iaload, 1) := by decide +kernel
theorem dX6_sells_77 : decode cX6_sells 77 = .ok (.ireturn, 1) := by decide +kernel
theorem dX6_undo_0 : decode cX6_undo 0 = .ok (.aload_n 0, 1) := by decide +kernel
theorem dX6_undo_1 : decode cX6_undo 1 = .ok (.getfield 38, 3) := by decide +kernel
theorem dX6_undo_4 : decode cX6_undo 4 = .ok (.bipush 28, 2) := by decide +kernel
theorem dX6_undo_6 : decode cX6_undo 6 = .ok (.iaload, 1) := by decide +kernel
theorem dX6_undo_7 : decode cX6_undo 7 = .ok (.ifCond .ne 6, 3) := by decide +kernel
theorem dX6_undo_10 : decode cX6_undo 10 = .ok (.bipush (-2), 2) := by decide +kernel
theorem dX6_undo_12 : decode cX6_undo 12 = .ok (.ireturn, 1) := by decide +kernel
theorem dX6_undo_13 : decode cX6_undo 13 = .ok (.aload_n 0, 1) := by decide +kernel
theorem dX6_undo_14 : decode cX6_undo 14 = .ok (.getfield 38, 3) := by decide +kernel
theorem dX6_undo_17 : decode cX6_undo 17 = .ok (.bipush 28, 2) := by decide +kernel
theorem dX6_undo_19 : decode cX6_undo 19 = .ok (.dup2, 1) := by decide +kernel
theorem dX6_undo_20 : decode cX6_undo 20 = .ok (.iaload, 1) := by decide +kernel
theorem dX6_undo_21 : decode cX6_undo 21 = .ok (.iconst 1, 1) := by decide +kernel
theorem dX6_undo_22 : decode cX6_undo 22 = .ok (.isub, 1) := by decide +kernel
theorem dX6_undo_23 : decode cX6_undo 23 = .ok (.iastore, 1) := by decide +kernel
theorem dX6_undo_24 : decode cX6_undo 24 = .ok (.iconst 0, 1) := by decide +kernel
theorem dX6_undo_25 : decode cX6_undo 25 = .ok (.istore_n 1, 1) := by decide +kernel
theorem dX6_undo_26 : decode cX6_undo 26 = .ok (.iload_n 1, 1) := by decide +kernel
theorem dX6_undo_27 : decode cX6_undo 27 = .ok (.bipush 28, 2) := by decide +kernel
theorem dX6_undo_29 : decode cX6_undo 29 = .ok (.if_icmp .ge 35, 3) := by decide +kernel
theorem dX6_undo_32 : decode cX6_undo 32 = .ok (.aload_n 0, 1) := by decide +kernel
theorem dX6_undo_33 : decode cX6_undo 33 = .ok (.getfield 38, 3) := by decide +kernel
theorem dX6_undo_36 : decode cX6_undo 36 = .ok (.iload_n 1, 1) := by decide +kernel
theorem dX6_undo_37 : decode cX6_undo 37 = .ok (.aload_n 0, 1) := by decide +kernel
theorem dX6_undo_38 : decode cX6_undo 38 = .ok (.getfield 38, 3) := by decide +kernel
theorem dX6_undo_41 : decode cX6_undo 41 = .ok (.bipush 29, 2) := by decide +kernel
theorem dX6_undo_43 : decode cX6_undo 43 = .ok (.bipush 28, 2) := by decide +kernel
theorem dX6_undo_45 : decode cX6_undo 45 = .ok (.aload_n 0, 1) := by decide +kernel
theorem dX6_undo_46 : decode cX6_undo 46 = .ok (.getfield 38, 3) := by decide +kernel
theorem dX6_undo_49 : decode cX6_undo 49 = .ok (.bipush 28, 2) := by decide +kernel
theorem dX6_undo_51 : decode cX6_undo 51 = .ok (.iaload, 1) := by decide +kernel
theorem dX6_undo_52 : decode cX6_undo 52 = .ok (.imul, 1) := by decide +kernel
theorem dX6_undo_53 : decode cX6_undo 53 = .ok (.iadd, 1) := by decide +kernel
theorem dX6_undo_54 : decode cX6_undo 54 = .ok (.iload_n 1, 1) := by decide +kernel
theorem dX6_undo_55 : decode cX6_undo 55 = .ok (.iadd, 1) := by decide +kernel
theorem dX6_undo_56 : decode cX6_undo 56 = .ok (.iaload, 1) := by decide +kernel
theorem dX6_undo_57 : decode cX6_undo 57 = .ok (.iastore, 1) := by decide +kernel
theorem dX6_undo_58 : decode cX6_undo 58 = .ok (.iinc 1 1, 3) := by decide +kernel
theorem dX6_undo_61 : decode cX6_undo 61 = .ok (.goto (-35), 3) := by decide +kernel
theorem dX6_undo_64 : decode cX6_undo 64 = .ok (.aload_n 0, 1) := by decide +kernel
theorem dX6_undo_65 : decode cX6_undo 65 = .ok (.getfield 38, 3) := by decide +kernel
theorem dX6_undo_68 : decode cX6_undo 68 = .ok (.bipush 28, 2) := by decide +kernel
theorem dX6_undo_70 : decode cX6_undo 70 = .ok (.iaload, 1) := by decide +kernel
theorem dX6_undo_71 : decode cX6_undo 71 = .ok (.ireturn, 1) := by decide +kernel
theorem dX6_now_0 : decode cX6_now 0 = .ok (.iconst 0, 1) := by decide +kernel
theorem dX6_now_1 : decode cX6_now 1 = .ok (.istore_n 2, 1) := by decide +kernel
theorem dX6_now_2 : decode cX6_now 2 = .ok (.iload_n 1, 1) := by decide +kernel
theorem dX6_now_3 : decode cX6_now 3 = .ok (.tableswitch 122 0 6 #[41, 41, 41, 41, 48, 62, 94], 41) := by decide +kernel
theorem dX6_now_44 : decode cX6_now 44 = .ok (.aload_n 0, 1) := by decide +kernel
theorem dX6_now_45 : decode cX6_now 45 = .ok (.getfield 38, 3) := by decide +kernel
theorem dX6_now_48 : decode cX6_now 48 = .ok (.iload_n 1, 1) := by decide +kernel
theorem dX6_now_49 : decode cX6_now 49 = .ok (.iaload, 1) := by decide +kernel
theorem dX6_now_50 : decode cX6_now 50 = .ok (.ireturn, 1) := by decide +kernel
theorem dX6_now_51 : decode cX6_now 51 = .ok (.aload_n 0, 1) := by decide +kernel
theorem dX6_now_52 : decode cX6_now 52 = .ok (.getfield 38, 3) := by decide +kernel
theorem dX6_now_55 : decode cX6_now 55 = .ok (.iconst 2, 1) := by decide +kernel
theorem dX6_now_56 : decode cX6_now 56 = .ok (.iaload, 1) := by decide +kernel
theorem dX6_now_57 : decode cX6_now 57 = .ok (.aload_n 0, 1) := by decide +kernel
theorem dX6_now_58 : decode cX6_now 58 = .ok (.getfield 35, 3) := by decide +kernel
theorem dX6_now_61 : decode cX6_now 61 = .ok (.iconst 0, 1) := by decide +kernel
theorem dX6_now_62 : decode cX6_now 62 = .ok (.iaload, 1) := by decide +kernel
theorem dX6_now_63 : decode cX6_now 63 = .ok (.idiv, 1) := by decide +kernel
theorem dX6_now_64 : decode cX6_now 64 = .ok (.ireturn, 1) := by decide +kernel
theorem dX6_now_65 : decode cX6_now 65 = .ok (.iconst 0, 1) := by decide +kernel
theorem dX6_now_66 : decode cX6_now 66 = .ok (.istore_n 3, 1) := by decide +kernel
theorem dX6_now_67 : decode cX6_now 67 = .ok (.iload_n 3, 1) := by decide +kernel
theorem dX6_now_68 : decode cX6_now 68 = .ok (.aload_n 0, 1) := by decide +kernel
theorem dX6_now_69 : decode cX6_now 69 = .ok (.getfield 13, 3) := by decide +kernel
theorem dX6_now_72 : decode cX6_now 72 = .ok (.iconst 0, 1) := by decide +kernel
theorem dX6_now_73 : decode cX6_now 73 = .ok (.iaload, 1) := by decide +kernel
theorem dX6_now_74 : decode cX6_now 74 = .ok (.if_icmp .ge 21, 3) := by decide +kernel
theorem dX6_now_77 : decode cX6_now 77 = .ok (.iload_n 2, 1) := by decide +kernel
theorem dX6_now_78 : decode cX6_now 78 = .ok (.aload_n 0, 1) := by decide +kernel
theorem dX6_now_79 : decode cX6_now 79 = .ok (.getfield 38, 3) := by decide +kernel
theorem dX6_now_82 : decode cX6_now 82 = .ok (.bipush 16, 2) := by decide +kernel
theorem dX6_now_84 : decode cX6_now 84 = .ok (.iload_n 3, 1) := by decide +kernel
theorem dX6_now_85 : decode cX6_now 85 = .ok (.iadd, 1) := by decide +kernel
theorem dX6_now_86 : decode cX6_now 86 = .ok (.iaload, 1) := by decide +kernel
theorem dX6_now_87 : decode cX6_now 87 = .ok (.iadd, 1) := by decide +kernel
theorem dX6_now_88 : decode cX6_now 88 = .ok (.istore_n 2, 1) := by decide +kernel
theorem dX6_now_89 : decode cX6_now 89 = .ok (.iinc 3 1, 3) := by decide +kernel
theorem dX6_now_92 : decode cX6_now 92 = .ok (.goto (-25), 3) := by decide +kernel
theorem dX6_now_95 : decode cX6_now 95 = .ok (.iload_n 2, 1) := by decide +kernel
theorem dX6_now_96 : decode cX6_now 96 = .ok (.ireturn, 1) := by decide +kernel
theorem dX6_now_97 : decode cX6_now 97 = .ok (.iconst 0, 1) := by decide +kernel
theorem dX6_now_98 : decode cX6_now 98 = .ok (.istore_n 3, 1) := by decide +kernel
theorem dX6_now_99 : decode cX6_now 99 = .ok (.iload_n 3, 1) := by decide +kernel
theorem dX6_now_100 : decode cX6_now 100 = .ok (.aload_n 0, 1) := by decide +kernel
theorem dX6_now_101 : decode cX6_now 101 = .ok (.getfield 13, 3) := by decide +kernel
theorem dX6_now_104 : decode cX6_now 104 = .ok (.iconst 0, 1) := by decide +kernel
theorem dX6_now_105 : decode cX6_now 105 = .ok (.iaload, 1) := by decide +kernel
theorem dX6_now_106 : decode cX6_now 106 = .ok (.if_icmp .ge 17, 3) := by decide +kernel
theorem dX6_now_109 : decode cX6_now 109 = .ok (.iload_n 2, 1) := by decide +kernel
theorem dX6_now_110 : decode cX6_now 110 = .ok (.aload_n 0, 1) := by decide +kernel
theorem dX6_now_111 : decode cX6_now 111 = .ok (.iload_n 3, 1) := by decide +kernel
theorem dX6_now_112 : decode cX6_now 112 = .ok (.invokevirtual 110, 3) := by decide +kernel
theorem dX6_now_115 : decode cX6_now 115 = .ok (.iadd, 1) := by decide +kernel
theorem dX6_now_116 : decode cX6_now 116 = .ok (.istore_n 2, 1) := by decide +kernel
theorem dX6_now_117 : decode cX6_now 117 = .ok (.iinc 3 1, 3) := by decide +kernel
theorem dX6_now_120 : decode cX6_now 120 = .ok (.goto (-21), 3) := by decide +kernel
theorem dX6_now_123 : decode cX6_now 123 = .ok (.iload_n 2, 1) := by decide +kernel
theorem dX6_now_124 : decode cX6_now 124 = .ok (.ireturn, 1) := by decide +kernel
theorem dX6_now_125 : decode cX6_now 125 = .ok (.iconst (-1), 1) := by decide +kernel
theorem dX6_now_126 : decode cX6_now 126 = .ok (.ireturn, 1) := by decide +kernel
theorem dX6_takeRow_0 : decode cX6_takeRow 0 = .ok (.iload_n 1, 1) := by decide +kernel
theorem dX6_takeRow_1 : decode cX6_takeRow 1 = .ok (.istore_n 3, 1) := by decide +kernel
theorem dX6_takeRow_2 : decode cX6_takeRow 2 = .ok (.iload_n 2, 1) := by decide +kernel
theorem dX6_takeRow_3 : decode cX6_takeRow 3 = .ok (.iconst 1, 1) := by decide +kernel
theorem dX6_takeRow_4 : decode cX6_takeRow 4 = .ok (.isub, 1) := by decide +kernel
theorem dX6_takeRow_5 : decode cX6_takeRow 5 = .ok (.istore 4, 2) := by decide +kernel
theorem dX6_takeRow_7 : decode cX6_takeRow 7 = .ok (.iload 4, 2) := by decide +kernel
theorem dX6_takeRow_9 : decode cX6_takeRow 9 = .ok (.ifCond .lt 25, 3) := by decide +kernel
theorem dX6_takeRow_12 : decode cX6_takeRow 12 = .ok (.aload_n 0, 1) := by decide +kernel
theorem dX6_takeRow_13 : decode cX6_takeRow 13 = .ok (.getfield 45, 3) := by decide +kernel
theorem dX6_takeRow_16 : decode cX6_takeRow 16 = .ok (.iload 4, 2) := by decide +kernel
theorem dX6_takeRow_18 : decode cX6_takeRow 18 = .ok (.iload_n 3, 1) := by decide +kernel
theorem dX6_takeRow_19 : decode cX6_takeRow 19 = .ok (.bipush 6, 2) := by decide +kernel
theorem dX6_takeRow_21 : decode cX6_takeRow 21 = .ok (.irem, 1) := by decide +kernel
theorem dX6_takeRow_22 : decode cX6_takeRow 22 = .ok (.iastore, 1) := by decide +kernel
theorem dX6_takeRow_23 : decode cX6_takeRow 23 = .ok (.iload_n 3, 1) := by decide +kernel
theorem dX6_takeRow_24 : decode cX6_takeRow 24 = .ok (.bipush 6, 2) := by decide +kernel
theorem dX6_takeRow_26 : decode cX6_takeRow 26 = .ok (.idiv, 1) := by decide +kernel
theorem dX6_takeRow_27 : decode cX6_takeRow 27 = .ok (.istore_n 3, 1) := by decide +kernel
theorem dX6_takeRow_28 : decode cX6_takeRow 28 = .ok (.iinc 4 (-1), 3) := by decide +kernel
theorem dX6_takeRow_31 : decode cX6_takeRow 31 = .ok (.goto (-24), 3) := by decide +kernel
theorem dX6_takeRow_34 : decode cX6_takeRow 34 = .ok (.return_, 1) := by decide +kernel
theorem dX6_daysOf_0 : decode cX6_daysOf 0 = .ok (.iconst 0, 1) := by decide +kernel
theorem dX6_daysOf_1 : decode cX6_daysOf 1 = .ok (.istore_n 3, 1) := by decide +kernel
theorem dX6_daysOf_2 : decode cX6_daysOf 2 = .ok (.aload_n 0, 1) := by decide +kernel
theorem dX6_daysOf_3 : decode cX6_daysOf 3 = .ok (.getfield 38, 3) := by decide +kernel
theorem dX6_daysOf_6 : decode cX6_daysOf 6 = .ok (.iconst 0, 1) := by decide +kernel
theorem dX6_daysOf_7 : decode cX6_daysOf 7 = .ok (.iaload, 1) := by decide +kernel
theorem dX6_daysOf_8 : decode cX6_daysOf 8 = .ok (.istore 4, 2) := by decide +kernel
theorem dX6_daysOf_10 : decode cX6_daysOf 10 = .ok (.aload_n 0, 1) := by decide +kernel
theorem dX6_daysOf_11 : decode cX6_daysOf 11 = .ok (.getfield 38, 3) := by decide +kernel
theorem dX6_daysOf_14 : decode cX6_daysOf 14 = .ok (.iconst 2, 1) := by decide +kernel
theorem dX6_daysOf_15 : decode cX6_daysOf 15 = .ok (.iaload, 1) := by decide +kernel
theorem dX6_daysOf_16 : decode cX6_daysOf 16 = .ok (.istore 5, 2) := by decide +kernel
theorem dX6_daysOf_18 : decode cX6_daysOf 18 = .ok (.aload_n 0, 1) := by decide +kernel
theorem dX6_daysOf_19 : decode cX6_daysOf 19 = .ok (.getfield 38, 3) := by decide +kernel
theorem dX6_daysOf_22 : decode cX6_daysOf 22 = .ok (.iconst 2, 1) := by decide +kernel
theorem dX6_daysOf_23 : decode cX6_daysOf 23 = .ok (.iaload, 1) := by decide +kernel
theorem dX6_daysOf_24 : decode cX6_daysOf 24 = .ok (.istore 6, 2) := by decide +kernel
theorem dX6_daysOf_26 : decode cX6_daysOf 26 = .ok (.iconst 0, 1) := by decide +kernel
theorem dX6_daysOf_27 : decode cX6_daysOf 27 = .ok (.istore 7, 2) := by decide +kernel
theorem dX6_daysOf_29 : decode cX6_daysOf 29 = .ok (.iconst 0, 1) := by decide +kernel
theorem dX6_daysOf_30 : decode cX6_daysOf 30 = .ok (.istore 8, 2) := by decide +kernel
theorem dX6_daysOf_32 : decode cX6_daysOf 32 = .ok (.iload 8, 2) := by decide +kernel
theorem dX6_daysOf_34 : decode cX6_daysOf 34 = .ok (.iload_n 1, 1) := by decide +kernel
theorem dX6_daysOf_35 : decode cX6_daysOf 35 = .ok (.if_icmp .ge 132, 3) := by decide +kernel
theorem dX6_daysOf_38 : decode cX6_daysOf 38 = .ok (.aload_n 0, 1) := by decide +kernel
theorem dX6_daysOf_39 : decode cX6_daysOf 39 = .ok (.getfield 45, 3) := by decide +kernel
theorem dX6_daysOf_42 : decode cX6_daysOf 42 = .ok (.iload 8, 2) := by decide +kernel
theorem dX6_daysOf_44 : decode cX6_daysOf 44 = .ok (.iaload, 1) := by decide +kernel
theorem dX6_daysOf_45 : decode cX6_daysOf 45 = .ok (.istore 9, 2) := by decide +kernel
theorem dX6_daysOf_47 : decode cX6_daysOf 47 = .ok (.iload 9, 2) := by decide +kernel
theorem dX6_daysOf_49 : decode cX6_daysOf 49 = .ok (.aload_n 0, 1) := by decide +kernel
theorem dX6_daysOf_50 : decode cX6_daysOf 50 = .ok (.getfield 13, 3) := by decide +kernel
theorem dX6_daysOf_53 : decode cX6_daysOf 53 = .ok (.iconst 0, 1) := by decide +kernel
theorem dX6_daysOf_54 : decode cX6_daysOf 54 = .ok (.iaload, 1) := by decide +kernel
theorem dX6_daysOf_55 : decode cX6_daysOf 55 = .ok (.if_icmp .ge 13, 3) := by decide +kernel
theorem dX6_daysOf_58 : decode cX6_daysOf 58 = .ok (.iload_n 3, 1) := by decide +kernel
theorem dX6_daysOf_59 : decode cX6_daysOf 59 = .ok (.iload 9, 2) := by decide +kernel
theorem dX6_daysOf_61 : decode cX6_daysOf 61 = .ok (.ishr, 1) := by decide +kernel
theorem dX6_daysOf_62 : decode cX6_daysOf 62 = .ok (.iconst 1, 1) := by decide +kernel
theorem dX6_daysOf_63 : decode cX6_daysOf 63 = .ok (.iand, 1) := by decide +kernel
theorem dX6_daysOf_64 : decode cX6_daysOf 64 = .ok (.iconst 1, 1) := by decide +kernel
theorem dX6_daysOf_65 : decode cX6_daysOf 65 = .ok (.if_icmp .ne 6, 3) := by decide +kernel
theorem dX6_daysOf_68 : decode cX6_daysOf 68 = .ok (.bipush (-9), 2) := by decide +kernel
theorem dX6_daysOf_70 : decode cX6_daysOf 70 = .ok (.ireturn, 1) := by decide +kernel
theorem dX6_daysOf_71 : decode cX6_daysOf 71 = .ok (.aload_n 0, 1) := by decide +kernel
theorem dX6_daysOf_72 : decode cX6_daysOf 72 = .ok (.getfield 29, 3) := by decide +kernel
theorem dX6_daysOf_75 : decode cX6_daysOf 75 = .ok (.bipush 6, 2) := by decide +kernel
theorem dX6_daysOf_77 : decode cX6_daysOf 77 = .ok (.iload 4, 2) := by decide +kernel
theorem dX6_daysOf_79 : decode cX6_daysOf 79 = .ok (.imul, 1) := by decide +kernel
theorem dX6_daysOf_80 : decode cX6_daysOf 80 = .ok (.iload 9, 2) := by decide +kernel
theorem dX6_daysOf_82 : decode cX6_daysOf 82 = .ok (.iadd, 1) := by decide +kernel
theorem dX6_daysOf_83 : decode cX6_daysOf 83 = .ok (.iaload, 1) := by decide +kernel
theorem dX6_daysOf_84 : decode cX6_daysOf 84 = .ok (.istore 10, 2) := by decide +kernel
theorem dX6_daysOf_86 : decode cX6_daysOf 86 = .ok (.iload 10, 2) := by decide +kernel
theorem dX6_daysOf_88 : decode cX6_daysOf 88 = .ok (.sipush 1000, 3) := by decide +kernel
theorem dX6_daysOf_91 : decode cX6_daysOf 91 = .ok (.if_icmp .ge 17, 3) := by decide +kernel
theorem dX6_daysOf_94 : decode cX6_daysOf 94 = .ok (.iload 5, 2) := by decide +kernel
theorem dX6_daysOf_96 : decode cX6_daysOf 96 = .ok (.aload_n 0, 1) := by decide +kernel
theorem dX6_daysOf_97 : decode cX6_daysOf 97 = .ok (.getfield 35, 3) := by decide +kernel
theorem dX6_daysOf_100 : decode cX6_daysOf 100 = .ok (.iconst 0, 1) := by decide +kernel
theorem dX6_daysOf_101 : decode cX6_daysOf 101 = .ok (.iaload, 1) := by decide +kernel
theorem dX6_daysOf_102 : decode cX6_daysOf 102 = .ok (.iload 10, 2) := by decide +kernel
theorem dX6_daysOf_104 : decode cX6_daysOf 104 = .ok (.imul, 1) := by decide +kernel
theorem dX6_daysOf_105 : decode cX6_daysOf 105 = .ok (.if_icmp .ge 6, 3) := by decide +kernel
theorem dX6_daysOf_108 : decode cX6_daysOf 108 = .ok (.bipush (-9), 2) := by decide +kernel
theorem dX6_daysOf_110 : decode cX6_daysOf 110 = .ok (.ireturn, 1) := by decide +kernel
theorem dX6_daysOf_111 : decode cX6_daysOf 111 = .ok (.iload_n 3, 1) := by decide +kernel
theorem dX6_daysOf_112 : decode cX6_daysOf 112 = .ok (.iconst 1, 1) := by decide +kernel
theorem dX6_daysOf_113 : decode cX6_daysOf 113 = .ok (.iload 9, 2) := by decide +kernel
theorem dX6_daysOf_115 : decode cX6_daysOf 115 = .ok (.ishl, 1) := by decide +kernel
theorem dX6_daysOf_116 : decode cX6_daysOf 116 = .ok (.ior, 1) := by decide +kernel
theorem dX6_daysOf_117 : decode cX6_daysOf 117 = .ok (.istore_n 3, 1) := by decide +kernel
theorem dX6_daysOf_118 : decode cX6_daysOf 118 = .ok (.iload 5, 2) := by decide +kernel
theorem dX6_daysOf_120 : decode cX6_daysOf 120 = .ok (.aload_n 0, 1) := by decide +kernel
theorem dX6_daysOf_121 : decode cX6_daysOf 121 = .ok (.iload 9, 2) := by decide +kernel
theorem dX6_daysOf_123 : decode cX6_daysOf 123 = .ok (.invokevirtual 110, 3) := by decide +kernel
theorem dX6_daysOf_126 : decode cX6_daysOf 126 = .ok (.aload_n 0, 1) := by decide +kernel
theorem dX6_daysOf_127 : decode cX6_daysOf 127 = .ok (.getfield 35, 3) := by decide +kernel
theorem dX6_daysOf_130 : decode cX6_daysOf 130 = .ok (.iconst 0, 1) := by decide +kernel
theorem dX6_daysOf_131 : decode cX6_daysOf 131 = .ok (.iaload, 1) := by decide +kernel
theorem dX6_daysOf_132 : decode cX6_daysOf 132 = .ok (.iload 10, 2) := by decide +kernel
theorem dX6_daysOf_134 : decode cX6_daysOf 134 = .ok (.imul, 1) := by decide +kernel
theorem dX6_daysOf_135 : decode cX6_daysOf 135 = .ok (.isub, 1) := by decide +kernel
theorem dX6_daysOf_136 : decode cX6_daysOf 136 = .ok (.iadd, 1) := by decide +kernel
theorem dX6_daysOf_137 : decode cX6_daysOf 137 = .ok (.istore 5, 2) := by decide +kernel
theorem dX6_daysOf_139 : decode cX6_daysOf 139 = .ok (.iload 6, 2) := by decide +kernel
theorem dX6_daysOf_141 : decode cX6_daysOf 141 = .ok (.aload_n 0, 1) := by decide +kernel
theorem dX6_daysOf_142 : decode cX6_daysOf 142 = .ok (.iload 9, 2) := by decide +kernel
theorem dX6_daysOf_144 : decode cX6_daysOf 144 = .ok (.invokevirtual 110, 3) := by decide +kernel
theorem dX6_daysOf_147 : decode cX6_daysOf 147 = .ok (.iadd, 1) := by decide +kernel
theorem dX6_daysOf_148 : decode cX6_daysOf 148 = .ok (.istore 6, 2) := by decide +kernel
theorem dX6_daysOf_150 : decode cX6_daysOf 150 = .ok (.iload 7, 2) := by decide +kernel
theorem dX6_daysOf_152 : decode cX6_daysOf 152 = .ok (.iload 10, 2) := by decide +kernel
theorem dX6_daysOf_154 : decode cX6_daysOf 154 = .ok (.iadd, 1) := by decide +kernel
theorem dX6_daysOf_155 : decode cX6_daysOf 155 = .ok (.istore 7, 2) := by decide +kernel
theorem dX6_daysOf_157 : decode cX6_daysOf 157 = .ok (.iload 9, 2) := by decide +kernel
theorem dX6_daysOf_159 : decode cX6_daysOf 159 = .ok (.istore 4, 2) := by decide +kernel
theorem dX6_daysOf_161 : decode cX6_daysOf 161 = .ok (.iinc 8 1, 3) := by decide +kernel
theorem dX6_daysOf_164 : decode cX6_daysOf 164 = .ok (.goto (-132), 3) := by decide +kernel
theorem dX6_daysOf_167 : decode cX6_daysOf 167 = .ok (.iload 6, 2) := by decide +kernel
theorem dX6_daysOf_169 : decode cX6_daysOf 169 = .ok (.iload_n 2, 1) := by decide +kernel
theorem dX6_daysOf_170 : decode cX6_daysOf 170 = .ok (.if_icmp .ge 8, 3) := by decide +kernel
theorem dX6_daysOf_173 : decode cX6_daysOf 173 = .ok (.bipush (-9), 2) := by decide +kernel
theorem dX6_daysOf_175 : decode cX6_daysOf 175 = .ok (.goto 5, 3) := by decide +kernel
theorem dX6_daysOf_178 : decode cX6_daysOf 178 = .ok (.iload 7, 2) := by decide +kernel
theorem dX6_daysOf_180 : decode cX6_daysOf 180 = .ok (.ireturn, 1) := by decide +kernel
theorem dX6_findTour_0 : decode cX6_findTour 0 = .ok (.aload_n 0, 1) := by decide +kernel
theorem dX6_findTour_1 : decode cX6_findTour 1 = .ok (.bipush (-9), 2) := by decide +kernel
theorem dX6_findTour_3 : decode cX6_findTour 3 = .ok (.putfield 123, 3) := by decide +kernel
theorem dX6_findTour_6 : decode cX6_findTour 6 = .ok (.iconst 1, 1) := by decide +kernel
theorem dX6_findTour_7 : decode cX6_findTour 7 = .ok (.istore_n 2, 1) := by decide +kernel
theorem dX6_findTour_8 : decode cX6_findTour 8 = .ok (.iconst 0, 1) := by decide +kernel
theorem dX6_findTour_9 : decode cX6_findTour 9 = .ok (.istore_n 3, 1) := by decide +kernel
theorem dX6_findTour_10 : decode cX6_findTour 10 = .ok (.iload_n 3, 1) := by decide +kernel
theorem dX6_findTour_11 : decode cX6_findTour 11 = .ok (.aload_n 0, 1) := by decide +kernel
theorem dX6_findTour_12 : decode cX6_findTour 12 = .ok (.getfield 13, 3) := by decide +kernel
theorem dX6_findTour_15 : decode cX6_findTour 15 = .ok (.iconst 0, 1) := by decide +kernel
theorem dX6_findTour_16 : decode cX6_findTour 16 = .ok (.iaload, 1) := by decide +kernel
theorem dX6_findTour_17 : decode cX6_findTour 17 = .ok (.if_icmp .gt 95, 3) := by decide +kernel
theorem dX6_findTour_20 : decode cX6_findTour 20 = .ok (.aload_n 0, 1) := by decide +kernel
theorem dX6_findTour_21 : decode cX6_findTour 21 = .ok (.getfield 123, 3) := by decide +kernel
theorem dX6_findTour_24 : decode cX6_findTour 24 = .ok (.bipush (-9), 2) := by decide +kernel
theorem dX6_findTour_26 : decode cX6_findTour 26 = .ok (.if_icmp .ne 86, 3) := by decide +kernel
theorem dX6_findTour_29 : decode cX6_findTour 29 = .ok (.iconst 0, 1) := by decide +kernel
theorem dX6_findTour_30 : decode cX6_findTour 30 = .ok (.istore 4, 2) := by decide +kernel
theorem dX6_findTour_32 : decode cX6_findTour 32 = .ok (.iload 4, 2) := by decide +kernel
theorem dX6_findTour_34 : decode cX6_findTour 34 = .ok (.iload_n 2, 1) := by decide +kernel
theorem dX6_findTour_35 : decode cX6_findTour 35 = .ok (.if_icmp .ge 66, 3) := by decide +kernel
theorem dX6_findTour_38 : decode cX6_findTour 38 = .ok (.aload_n 0, 1) := by decide +kernel
theorem dX6_findTour_39 : decode cX6_findTour 39 = .ok (.iload 4, 2) := by decide +kernel
theorem dX6_findTour_41 : decode cX6_findTour 41 = .ok (.iload_n 3, 1) := by decide +kernel
theorem dX6_findTour_42 : decode cX6_findTour 42 = .ok (.invokevirtual 126, 3) := by decide +kernel
theorem dX6_findTour_45 : decode cX6_findTour 45 = .ok (.aload_n 0, 1) := by decide +kernel
theorem dX6_findTour_46 : decode cX6_findTour 46 = .ok (.iload_n 3, 1) := by decide +kernel
theorem dX6_findTour_47 : decode cX6_findTour 47 = .ok (.iload_n 1, 1) := by decide +kernel
theorem dX6_findTour_48 : decode cX6_findTour 48 = .ok (.invokevirtual 130, 3) := by decide +kernel
theorem dX6_findTour_51 : decode cX6_findTour 51 = .ok (.istore 5, 2) := by decide +kernel
theorem dX6_findTour_53 : decode cX6_findTour 53 = .ok (.iload 5, 2) := by decide +kernel
theorem dX6_findTour_55 : decode cX6_findTour 55 = .ok (.bipush (-9), 2) := by decide +kernel
theorem dX6_findTour_57 : decode cX6_findTour 57 = .ok (.if_icmp .eq 38, 3) := by decide +kernel
theorem dX6_findTour_60 : decode cX6_findTour 60 = .ok (.aload_n 0, 1) := by decide +kernel
theorem dX6_findTour_61 : decode cX6_findTour 61 = .ok (.getfield 123, 3) := by decide +kernel
theorem dX6_findTour_64 : decode cX6_findTour 64 = .ok (.bipush (-9), 2) := by decide +kernel
theorem dX6_findTour_66 : decode cX6_findTour 66 = .ok (.if_icmp .eq 12, 3) := by decide +kernel
theorem dX6_findTour_69 : decode cX6_findTour 69 = .ok (.iload 5, 2) := by decide +kernel
theorem dX6_findTour_71 : decode cX6_findTour 71 = .ok (.aload_n 0, 1) := by decide +kernel
theorem dX6_findTour_72 : decode cX6_findTour 72 = .ok (.getfield 133, 3) := by decide +kernel
theorem dX6_findTour_75 : decode cX6_findTour 75 = .ok (.if_icmp .ge 20, 3) := by decide +kernel
theorem dX6_findTour_78 : decode cX6_findTour 78 = .ok (.aload_n 0, 1) := by decide +kernel
theorem dX6_findTour_79 : decode cX6_findTour 79 = .ok (.iload 4, 2) := by decide +kernel
theorem dX6_findTour_81 : decode cX6_findTour 81 = .ok (.putfield 123, 3) := by decide +kernel
theorem dX6_findTour_84 : decode cX6_findTour 84 = .ok (.aload_n 0, 1) := by decide +kernel
theorem dX6_findTour_85 : decode cX6_findTour 85 = .ok (.iload 5, 2) := by decide +kernel
theorem dX6_findTour_87 : decode cX6_findTour 87 = .ok (.putfield 133, 3) := by decide +kernel
theorem dX6_findTour_90 : decode cX6_findTour 90 = .ok (.aload_n 0, 1) := by decide +kernel
theorem dX6_findTour_91 : decode cX6_findTour 91 = .ok (.iload_n 3, 1) := by decide +kernel
theorem dX6_findTour_92 : decode cX6_findTour 92 = .ok (.putfield 136, 3) := by decide +kernel
theorem dX6_findTour_95 : decode cX6_findTour 95 = .ok (.iinc 4 1, 3) := by decide +kernel
theorem dX6_findTour_98 : decode cX6_findTour 98 = .ok (.goto (-66), 3) := by decide +kernel
theorem dX6_findTour_101 : decode cX6_findTour 101 = .ok (.iload_n 2, 1) := by decide +kernel
theorem dX6_findTour_102 : decode cX6_findTour 102 = .ok (.bipush 6, 2) := by decide +kernel
theorem dX6_findTour_104 : decode cX6_findTour 104 = .ok (.imul, 1) := by decide +kernel
theorem dX6_findTour_105 : decode cX6_findTour 105 = .ok (.istore_n 2, 1) := by decide +kernel
theorem dX6_findTour_106 : decode cX6_findTour 106 = .ok (.iinc 3 1, 3) := by decide +kernel
theorem dX6_findTour_109 : decode cX6_findTour 109 = .ok (.goto (-99), 3) := by decide +kernel
theorem dX6_findTour_112 : decode cX6_findTour 112 = .ok (.return_, 1) := by decide +kernel
theorem dX6_tour_0 : decode cX6_tour 0 = .ok (.iload_n 1, 1) := by decide +kernel
theorem dX6_tour_1 : decode cX6_tour 1 = .ok (.iconst 1, 1) := by decide +kernel
theorem dX6_tour_2 : decode cX6_tour 2 = .ok (.bipush 60, 2) := by decide +kernel
theorem dX6_tour_4 : decode cX6_tour 4 = .ok (.invokestatic 54, 3) := by decide +kernel
theorem dX6_tour_7 : decode cX6_tour 7 = .ok (.ifCond .eq 13, 3) := by decide +kernel
theorem dX6_tour_10 : decode cX6_tour 10 = .ok (.iload_n 2, 1) := by decide +kernel
theorem dX6_tour_11 : decode cX6_tour 11 = .ok (.bipush (-2), 2) := by decide +kernel
theorem dX6_tour_13 : decode cX6_tour 13 = .ok (.iconst 5, 1) := by decide +kernel
theorem dX6_tour_14 : decode cX6_tour 14 = .ok (.invokestatic 54, 3) := by decide +kernel
theorem dX6_tour_17 : decode cX6_tour 17 = .ok (.ifCond .ne 5, 3) := by decide +kernel
theorem dX6_tour_20 : decode cX6_tour 20 = .ok (.iconst (-1), 1) := by decide +kernel
theorem dX6_tour_21 : decode cX6_tour 21 = .ok (.ireturn, 1) := by decide +kernel
theorem dX6_tour_22 : decode cX6_tour 22 = .ok (.aload_n 0, 1) := by decide +kernel
theorem dX6_tour_23 : decode cX6_tour 23 = .ok (.aload_n 0, 1) := by decide +kernel
theorem dX6_tour_24 : decode cX6_tour 24 = .ok (.getfield 35, 3) := by decide +kernel
theorem dX6_tour_27 : decode cX6_tour 27 = .ok (.iconst 0, 1) := by decide +kernel
theorem dX6_tour_28 : decode cX6_tour 28 = .ok (.iaload, 1) := by decide +kernel
theorem dX6_tour_29 : decode cX6_tour 29 = .ok (.iload_n 1, 1) := by decide +kernel
theorem dX6_tour_30 : decode cX6_tour 30 = .ok (.imul, 1) := by decide +kernel
theorem dX6_tour_31 : decode cX6_tour 31 = .ok (.invokevirtual 139, 3) := by decide +kernel
theorem dX6_tour_34 : decode cX6_tour 34 = .ok (.aload_n 0, 1) := by decide +kernel
theorem dX6_tour_35 : decode cX6_tour 35 = .ok (.getfield 123, 3) := by decide +kernel
theorem dX6_tour_38 : decode cX6_tour 38 = .ok (.bipush (-9), 2) := by decide +kernel
theorem dX6_tour_40 : decode cX6_tour 40 = .ok (.if_icmp .ne 6, 3) := by decide +kernel
theorem dX6_tour_43 : decode cX6_tour 43 = .ok (.bipush (-9), 2) := by decide +kernel
theorem dX6_tour_45 : decode cX6_tour 45 = .ok (.ireturn, 1) := by decide +kernel
theorem dX6_tour_46 : decode cX6_tour 46 = .ok (.aload_n 0, 1) := by decide +kernel
theorem dX6_tour_47 : decode cX6_tour 47 = .ok (.aload_n 0, 1) := by decide +kernel
theorem dX6_tour_48 : decode cX6_tour 48 = .ok (.getfield 123, 3) := by decide +kernel
theorem dX6_tour_51 : decode cX6_tour 51 = .ok (.aload_n 0, 1) := by decide +kernel
theorem dX6_tour_52 : decode cX6_tour 52 = .ok (.getfield 136, 3) := by decide +kernel
theorem dX6_tour_55 : decode cX6_tour 55 = .ok (.invokevirtual 126, 3) := by decide +kernel
theorem dX6_tour_58 : decode cX6_tour 58 = .ok (.iload_n 2, 1) := by decide +kernel
theorem dX6_tour_59 : decode cX6_tour 59 = .ok (.iconst (-1), 1) := by decide +kernel
theorem dX6_tour_60 : decode cX6_tour 60 = .ok (.if_icmp .ne 10, 3) := by decide +kernel
theorem dX6_tour_63 : decode cX6_tour 63 = .ok (.aload_n 0, 1) := by decide +kernel
theorem dX6_tour_64 : decode cX6_tour 64 = .ok (.getfield 136, 3) := by decide +kernel
theorem dX6_tour_67 : decode cX6_tour 67 = .ok (.goto 35, 3) := by decide +kernel
theorem dX6_tour_70 : decode cX6_tour 70 = .ok (.iload_n 2, 1) := by decide +kernel
theorem dX6_tour_71 : decode cX6_tour 71 = .ok (.bipush (-2), 2) := by decide +kernel
theorem dX6_tour_73 : decode cX6_tour 73 = .ok (.if_icmp .ne 10, 3) := by decide +kernel
theorem dX6_tour_76 : decode cX6_tour 76 = .ok (.aload_n 0, 1) := by decide +kernel
theorem dX6_tour_77 : decode cX6_tour 77 = .ok (.getfield 133, 3) := by decide +kernel
theorem dX6_tour_80 : decode cX6_tour 80 = .ok (.goto 22, 3) := by decide +kernel
theorem dX6_tour_83 : decode cX6_tour 83 = .ok (.iload_n 2, 1) := by decide +kernel
theorem dX6_tour_84 : decode cX6_tour 84 = .ok (.aload_n 0, 1) := by decide +kernel
theorem dX6_tour_85 : decode cX6_tour 85 = .ok (.getfield 136, 3) := by decide +kernel
theorem dX6_tour_88 : decode cX6_tour 88 = .ok (.if_icmp .ge 12, 3) := by decide +kernel
theorem dX6_tour_91 : decode cX6_tour 91 = .ok (.aload_n 0, 1) := by decide +kernel
theorem dX6_tour_92 : decode cX6_tour 92 = .ok (.getfield 45, 3) := by decide +kernel
theorem dX6_tour_95 : decode cX6_tour 95 = .ok (.iload_n 2, 1) := by decide +kernel
theorem dX6_tour_96 : decode cX6_tour 96 = .ok (.iaload, 1) := by decide +kernel
theorem dX6_tour_97 : decode cX6_tour 97 = .ok (.goto 5, 3) := by decide +kernel
theorem dX6_tour_100 : decode cX6_tour 100 = .ok (.bipush (-9), 2) := by decide +kernel
theorem dX6_tour_102 : decode cX6_tour 102 = .ok (.ireturn, 1) := by decide +kernel
theorem dX6_spareOf_0 : decode cX6_spareOf 0 = .ok (.iconst 0, 1) := by decide +kernel
theorem dX6_spareOf_1 : decode cX6_spareOf 1 = .ok (.istore_n 2, 1) := by decide +kernel
theorem dX6_spareOf_2 : decode cX6_spareOf 2 = .ok (.iconst 0, 1) := by decide +kernel
theorem dX6_spareOf_3 : decode cX6_spareOf 3 = .ok (.istore_n 3, 1) := by decide +kernel
theorem dX6_spareOf_4 : decode cX6_spareOf 4 = .ok (.iload_n 3, 1) := by decide +kernel
theorem dX6_spareOf_5 : decode cX6_spareOf 5 = .ok (.aload_n 0, 1) := by decide +kernel
theorem dX6_spareOf_6 : decode cX6_spareOf 6 = .ok (.getfield 13, 3) := by decide +kernel
theorem dX6_spareOf_9 : decode cX6_spareOf 9 = .ok (.iconst 0, 1) := by decide +kernel
theorem dX6_spareOf_10 : decode cX6_spareOf 10 = .ok (.iaload, 1) := by decide +kernel
theorem dX6_spareOf_11 : decode cX6_spareOf 11 = .ok (.if_icmp .ge 30, 3) := by decide +kernel
theorem dX6_spareOf_14 : decode cX6_spareOf 14 = .ok (.iload_n 2, 1) := by decide +kernel
theorem dX6_spareOf_15 : decode cX6_spareOf 15 = .ok (.iload_n 1, 1) := by decide +kernel
theorem dX6_spareOf_16 : decode cX6_spareOf 16 = .ok (.iload_n 3, 1) := by decide +kernel
theorem dX6_spareOf_17 : decode cX6_spareOf 17 = .ok (.ishr, 1) := by decide +kernel
theorem dX6_spareOf_18 : decode cX6_spareOf 18 = .ok (.iconst 1, 1) := by decide +kernel
theorem dX6_spareOf_19 : decode cX6_spareOf 19 = .ok (.iand, 1) := by decide +kernel
theorem dX6_spareOf_20 : decode cX6_spareOf 20 = .ok (.iconst 1, 1) := by decide +kernel
theorem dX6_spareOf_21 : decode cX6_spareOf 21 = .ok (.if_icmp .ne 11, 3) := by decide +kernel
theorem dX6_spareOf_24 : decode cX6_spareOf 24 = .ok (.aload_n 0, 1) := by decide +kernel
theorem dX6_spareOf_25 : decode cX6_spareOf 25 = .ok (.iload_n 3, 1) := by decide +kernel
theorem dX6_spareOf_26 : decode cX6_spareOf 26 = .ok (.invokevirtual 110, 3) := by decide +kernel
theorem dX6_spareOf_29 : decode cX6_spareOf 29 = .ok (.goto 4, 3) := by decide +kernel
theorem dX6_spareOf_32 : decode cX6_spareOf 32 = .ok (.iconst 0, 1) := by decide +kernel
theorem dX6_spareOf_33 : decode cX6_spareOf 33 = .ok (.iadd, 1) := by decide +kernel
theorem dX6_spareOf_34 : decode cX6_spareOf 34 = .ok (.istore_n 2, 1) := by decide +kernel
theorem dX6_spareOf_35 : decode cX6_spareOf 35 = .ok (.iinc 3 1, 3) := by decide +kernel
theorem dX6_spareOf_38 : decode cX6_spareOf 38 = .ok (.goto (-34), 3) := by decide +kernel
theorem dX6_spareOf_41 : decode cX6_spareOf 41 = .ok (.iload_n 2, 1) := by decide +kernel
theorem dX6_spareOf_42 : decode cX6_spareOf 42 = .ok (.ireturn, 1) := by decide +kernel
theorem dX6_from_0 : decode cX6_from 0 = .ok (.iload_n 1, 1) := by decide +kernel
theorem dX6_from_1 : decode cX6_from 1 = .ok (.iconst 0, 1) := by decide +kernel
theorem dX6_from_2 : decode cX6_from 2 = .ok (.sipush 360, 3) := by decide +kernel
theorem dX6_from_5 : decode cX6_from 5 = .ok (.invokestatic 54, 3) := by decide +kernel
theorem dX6_from_8 : decode cX6_from 8 = .ok (.ifCond .ne 5, 3) := by decide +kernel
theorem dX6_from_11 : decode cX6_from 11 = .ok (.iconst (-1), 1) := by decide +kernel
theorem dX6_from_12 : decode cX6_from 12 = .ok (.ireturn, 1) := by decide +kernel
theorem dX6_from_13 : decode cX6_from 13 = .ok (.bipush (-9), 2) := by decide +kernel
theorem dX6_from_15 : decode cX6_from 15 = .ok (.istore_n 2, 1) := by decide +kernel
theorem dX6_from_16 : decode cX6_from 16 = .ok (.iconst 0, 1) := by decide +kernel
theorem dX6_from_17 : decode cX6_from 17 = .ok (.istore_n 3, 1) := by decide +kernel
theorem dX6_from_18 : decode cX6_from 18 = .ok (.iload_n 3, 1) := by decide +kernel
theorem dX6_from_19 : decode cX6_from 19 = .ok (.iconst 1, 1) := by decide +kernel
theorem dX6_from_20 : decode cX6_from 20 = .ok (.aload_n 0, 1) := by decide +kernel
theorem dX6_from_21 : decode cX6_from 21 = .ok (.getfield 13, 3) := by decide +kernel
theorem dX6_from_24 : decode cX6_from 24 = .ok (.iconst 0, 1) := by decide +kernel
theorem dX6_from_25 : decode cX6_from 25 = .ok (.iaload, 1) := by decide +kernel
theorem dX6_from_26 : decode cX6_from 26 = .ok (.ishl, 1) := by decide +kernel
theorem dX6_from_27 : decode cX6_from 27 = .ok (.if_icmp .ge 53, 3) := by decide +kernel
theorem dX6_from_30 : decode cX6_from 30 = .ok (.iload_n 2, 1) := by decide +kernel
theorem dX6_from_31 : decode cX6_from 31 = .ok (.bipush (-9), 2) := by decide +kernel
theorem dX6_from_33 : decode cX6_from 33 = .ok (.if_icmp .eq 14, 3) := by decide +kernel
theorem dX6_from_36 : decode cX6_from 36 = .ok (.iload_n 3, 1) := by decide +kernel
theorem dX6_from_37 : decode cX6_from 37 = .ok (.invokestatic 142, 3) := by decide +kernel
theorem dX6_from_40 : decode cX6_from 40 = .ok (.iload_n 2, 1) := by decide +kernel
theorem dX6_from_41 : decode cX6_from 41 = .ok (.invokestatic 142, 3) := by decide +kernel
theorem dX6_from_44 : decode cX6_from 44 = .ok (.if_icmp .ge 7, 3) := by decide +kernel
theorem dX6_from_47 : decode cX6_from 47 = .ok (.iconst 1, 1) := by decide +kernel
theorem dX6_from_48 : decode cX6_from 48 = .ok (.goto 4, 3) := by decide +kernel
theorem dX6_from_51 : decode cX6_from 51 = .ok (.iconst 0, 1) := by decide +kernel
theorem dX6_from_52 : decode cX6_from 52 = .ok (.istore 4, 2) := by decide +kernel
theorem dX6_from_54 : decode cX6_from 54 = .ok (.iload 4, 2) := by decide +kernel
theorem dX6_from_56 : decode cX6_from 56 = .ok (.ifCond .eq 16, 3) := by decide +kernel
theorem dX6_from_59 : decode cX6_from 59 = .ok (.aload_n 0, 1) := by decide +kernel
theorem dX6_from_60 : decode cX6_from 60 = .ok (.iload_n 3, 1) := by decide +kernel
theorem dX6_from_61 : decode cX6_from 61 = .ok (.invokevirtual 145, 3) := by decide +kernel
theorem dX6_from_64 : decode cX6_from 64 = .ok (.iload_n 1, 1) := by decide +kernel
theorem dX6_from_65 : decode cX6_from 65 = .ok (.if_icmp .lt 7, 3) := by decide +kernel
theorem dX6_from_68 : decode cX6_from 68 = .ok (.iload_n 3, 1) := by decide +kernel
theorem dX6_from_69 : decode cX6_from 69 = .ok (.goto 4, 3) := by decide +kernel
theorem dX6_from_72 : decode cX6_from 72 = .ok (.iload_n 2, 1) := by decide +kernel
theorem dX6_from_73 : decode cX6_from 73 = .ok (.istore_n 2, 1) := by decide +kernel
theorem dX6_from_74 : decode cX6_from 74 = .ok (.iinc 3 1, 3) := by decide +kernel
theorem dX6_from_77 : decode cX6_from 77 = .ok (.goto (-59), 3) := by decide +kernel
theorem dX6_from_80 : decode cX6_from 80 = .ok (.iload_n 2, 1) := by decide +kernel
theorem dX6_from_81 : decode cX6_from 81 = .ok (.ireturn, 1) := by decide +kernel
theorem dX6_had_0 : decode cX6_had 0 = .ok (.iload_n 1, 1) := by decide +kernel
theorem dX6_had_1 : decode cX6_had 1 = .ok (.iconst 0, 1) := by decide +kernel
theorem dX6_had_2 : decode cX6_had 2 = .ok (.bipush 60, 2) := by decide +kernel
theorem dX6_had_4 : decode cX6_had 4 = .ok (.invokestatic 54, 3) := by decide +kernel
theorem dX6_had_7 : decode cX6_had 7 = .ok (.ifCond .eq 12, 3) := by decide +kernel
theorem dX6_had_10 : decode cX6_had 10 = .ok (.iload_n 2, 1) := by decide +kernel
theorem dX6_had_11 : decode cX6_had 11 = .ok (.iconst 0, 1) := by decide +kernel
theorem dX6_had_12 : decode cX6_had 12 = .ok (.iconst 1, 1) := by decide +kernel
theorem dX6_had_13 : decode cX6_had 13 = .ok (.invokestatic 54, 3) := by decide +kernel
theorem dX6_had_16 : decode cX6_had 16 = .ok (.ifCond .ne 5, 3) := by decide +kernel
theorem dX6_had_19 : decode cX6_had 19 = .ok (.iconst (-1), 1) := by decide +kernel
theorem dX6_had_20 : decode cX6_had 20 = .ok (.ireturn, 1) := by decide +kernel
theorem dX6_had_21 : decode cX6_had 21 = .ok (.bipush (-9), 2) := by decide +kernel
theorem dX6_had_23 : decode cX6_had 23 = .ok (.istore_n 3, 1) := by decide +kernel
theorem dX6_had_24 : decode cX6_had 24 = .ok (.bipush (-9), 2) := by decide +kernel
theorem dX6_had_26 : decode cX6_had 26 = .ok (.istore 4, 2) := by decide +kernel
theorem dX6_had_28 : decode cX6_had 28 = .ok (.iconst 1, 1) := by decide +kernel
theorem dX6_had_29 : decode cX6_had 29 = .ok (.istore 5, 2) := by decide +kernel
theorem dX6_had_31 : decode cX6_had 31 = .ok (.iload 5, 2) := by decide +kernel
theorem dX6_had_33 : decode cX6_had 33 = .ok (.bipush 60, 2) := by decide +kernel
theorem dX6_had_35 : decode cX6_had 35 = .ok (.if_icmp .gt 42, 3) := by decide +kernel
theorem dX6_had_38 : decode cX6_had 38 = .ok (.aload_n 0, 1) := by decide +kernel
theorem dX6_had_39 : decode cX6_had 39 = .ok (.getfield 35, 3) := by decide +kernel
theorem dX6_had_42 : decode cX6_had 42 = .ok (.iconst 1, 1) := by decide +kernel
theorem dX6_had_43 : decode cX6_had 43 = .ok (.iaload, 1) := by decide +kernel
theorem dX6_had_44 : decode cX6_had 44 = .ok (.iload 5, 2) := by decide +kernel
theorem dX6_had_46 : decode cX6_had 46 = .ok (.imul, 1) := by decide +kernel
theorem dX6_had_47 : decode cX6_had 47 = .ok (.bipush 10, 2) := by decide +kernel
theorem dX6_had_49 : decode cX6_had 49 = .ok (.idiv, 1) := by decide +kernel
theorem dX6_had_50 : decode cX6_had 50 = .ok (.iload_n 1, 1) := by decide +kernel
theorem dX6_had_51 : decode cX6_had 51 = .ok (.if_icmp .ne 20, 3) := by decide +kernel
theorem dX6_had_54 : decode cX6_had 54 = .ok (.iload_n 3, 1) := by decide +kernel
theorem dX6_had_55 : decode cX6_had 55 = .ok (.bipush (-9), 2) := by decide +kernel
theorem dX6_had_57 : decode cX6_had 57 = .ok (.if_icmp .ne 8, 3) := by decide +kernel
theorem dX6_had_60 : decode cX6_had 60 = .ok (.iload 5, 2) := by decide +kernel
theorem dX6_had_62 : decode cX6_had 62 = .ok (.goto 4, 3) := by decide +kernel
theorem dX6_had_65 : decode cX6_had 65 = .ok (.iload_n 3, 1) := by decide +kernel
theorem dX6_had_66 : decode cX6_had 66 = .ok (.istore_n 3, 1) := by decide +kernel
theorem dX6_had_67 : decode cX6_had 67 = .ok (.iload 5, 2) := by decide +kernel
theorem dX6_had_69 : decode cX6_had 69 = .ok (.istore 4, 2) := by decide +kernel
theorem dX6_had_71 : decode cX6_had 71 = .ok (.iinc 5 1, 3) := by decide +kernel
theorem dX6_had_74 : decode cX6_had 74 = .ok (.goto (-43), 3) := by decide +kernel
theorem dX6_had_77 : decode cX6_had 77 = .ok (.iload_n 2, 1) := by decide +kernel
theorem dX6_had_78 : decode cX6_had 78 = .ok (.ifCond .ne 7, 3) := by decide +kernel
theorem dX6_had_81 : decode cX6_had 81 = .ok (.iload_n 3, 1) := by decide +kernel
theorem dX6_had_82 : decode cX6_had 82 = .ok (.goto 5, 3) := by decide +kernel
theorem dX6_had_85 : decode cX6_had 85 = .ok (.iload 4, 2) := by decide +kernel
theorem dX6_had_87 : decode cX6_had 87 = .ok (.ireturn, 1) := by decide +kernel
theorem dX6_part_0 : decode cX6_part 0 = .ok (.iload_n 0, 1) := by decide +kernel
theorem dX6_part_1 : decode cX6_part 1 = .ok (.istore_n 3, 1) := by decide +kernel
theorem dX6_part_2 : decode cX6_part 2 = .ok (.iload_n 1, 1) := by decide +kernel
theorem dX6_part_3 : decode cX6_part 3 = .ok (.istore 4, 2) := by decide +kernel
theorem dX6_part_5 : decode cX6_part 5 = .ok (.iload 4, 2) := by decide +kernel
theorem dX6_part_7 : decode cX6_part 7 = .ok (.ifCond .eq 19, 3) := by decide +kernel
theorem dX6_part_10 : decode cX6_part 10 = .ok (.iload_n 3, 1) := by decide +kernel
theorem dX6_part_11 : decode cX6_part 11 = .ok (.iload 4, 2) := by decide +kernel
theorem dX6_part_13 : decode cX6_part 13 = .ok (.irem, 1) := by decide +kernel
theorem dX6_part_14 : decode cX6_part 14 = .ok (.istore 5, 2) := by decide +kernel
theorem dX6_part_16 : decode cX6_part 16 = .ok (.iload 4, 2) := by decide +kernel
theorem dX6_part_18 : decode cX6_part 18 = .ok (.istore_n 3, 1) := by decide +kernel
theorem dX6_part_19 : decode cX6_part 19 = .ok (.iload 5, 2) := by decide +kernel
theorem dX6_part_21 : decode cX6_part 21 = .ok (.istore 4, 2) := by decide +kernel
theorem dX6_part_23 : decode cX6_part 23 = .ok (.goto (-18), 3) := by decide +kernel
theorem dX6_part_26 : decode cX6_part 26 = .ok (.iload_n 2, 1) := by decide +kernel
theorem dX6_part_27 : decode cX6_part 27 = .ok (.ifCond .ne 9, 3) := by decide +kernel
theorem dX6_part_30 : decode cX6_part 30 = .ok (.iload_n 0, 1) := by decide +kernel
theorem dX6_part_31 : decode cX6_part 31 = .ok (.iload_n 3, 1) := by decide +kernel
theorem dX6_part_32 : decode cX6_part 32 = .ok (.idiv, 1) := by decide +kernel
theorem dX6_part_33 : decode cX6_part 33 = .ok (.goto 6, 3) := by decide +kernel
theorem dX6_part_36 : decode cX6_part 36 = .ok (.iload_n 1, 1) := by decide +kernel
theorem dX6_part_37 : decode cX6_part 37 = .ok (.iload_n 3, 1) := by decide +kernel
theorem dX6_part_38 : decode cX6_part 38 = .ok (.idiv, 1) := by decide +kernel
theorem dX6_part_39 : decode cX6_part 39 = .ok (.ireturn, 1) := by decide +kernel
theorem dX6_odds_0 : decode cX6_odds 0 = .ok (.iload_n 1, 1) := by decide +kernel
theorem dX6_odds_1 : decode cX6_odds 1 = .ok (.iconst 0, 1) := by decide +kernel
theorem dX6_odds_2 : decode cX6_odds 2 = .ok (.bipush 10, 2) := by decide +kernel
theorem dX6_odds_4 : decode cX6_odds 4 = .ok (.invokestatic 54, 3) := by decide +kernel
theorem dX6_odds_7 : decode cX6_odds 7 = .ok (.ifCond .eq 23, 3) := by decide +kernel
theorem dX6_odds_10 : decode cX6_odds 10 = .ok (.iload_n 2, 1) := by decide +kernel
theorem dX6_odds_11 : decode cX6_odds 11 = .ok (.iconst 0, 1) := by decide +kernel
theorem dX6_odds_12 : decode cX6_odds 12 = .ok (.sipush 360, 3) := by decide +kernel
theorem dX6_odds_15 : decode cX6_odds 15 = .ok (.invokestatic 54, 3) := by decide +kernel
theorem dX6_odds_18 : decode cX6_odds 18 = .ok (.ifCond .eq 12, 3) := by decide +kernel
theorem dX6_odds_21 : decode cX6_odds 21 = .ok (.iload_n 3, 1) := by decide +kernel
theorem dX6_odds_22 : decode cX6_odds 22 = .ok (.iconst 0, 1) := by decide +kernel
theorem dX6_odds_23 : decode cX6_odds 23 = .ok (.iconst 1, 1) := by decide +kernel
theorem dX6_odds_24 : decode cX6_odds 24 = .ok (.invokestatic 54, 3) := by decide +kernel
theorem dX6_odds_27 : decode cX6_odds 27 = .ok (.ifCond .ne 5, 3) := by decide +kernel
theorem dX6_odds_30 : decode cX6_odds 30 = .ok (.iconst (-1), 1) := by decide +kernel
theorem dX6_odds_31 : decode cX6_odds 31 = .ok (.ireturn, 1) := by decide +kernel
theorem dX6_odds_32 : decode cX6_odds 32 = .ok (.iconst 0, 1) := by decide +kernel
theorem dX6_odds_33 : decode cX6_odds 33 = .ok (.istore 4, 2) := by decide +kernel
theorem dX6_odds_35 : decode cX6_odds 35 = .ok (.iconst 1, 1) := by decide +kernel
theorem dX6_odds_36 : decode cX6_odds 36 = .ok (.istore 5, 2) := by decide +kernel
theorem dX6_odds_38 : decode cX6_odds 38 = .ok (.iconst 0, 1) := by decide +kernel
theorem dX6_odds_39 : decode cX6_odds 39 = .ok (.istore 6, 2) := by decide +kernel
theorem dX6_odds_41 : decode cX6_odds 41 = .ok (.iload 6, 2) := by decide +kernel
theorem dX6_odds_43 : decode cX6_odds 43 = .ok (.aload_n 0, 1) := by decide +kernel
theorem dX6_odds_44 : decode cX6_odds 44 = .ok (.getfield 13, 3) := by decide +kernel
theorem dX6_odds_47 : decode cX6_odds 47 = .ok (.iconst 0, 1) := by decide +kernel
theorem dX6_odds_48 : decode cX6_odds 48 = .ok (.iaload, 1) := by decide +kernel
theorem dX6_odds_49 : decode cX6_odds 49 = .ok (.if_icmp .ge 16, 3) := by decide +kernel
theorem dX6_odds_52 : decode cX6_odds 52 = .ok (.iload 5, 2) := by decide +kernel
theorem dX6_odds_54 : decode cX6_odds 54 = .ok (.bipush 10, 2) := by decide +kernel
theorem dX6_odds_56 : decode cX6_odds 56 = .ok (.imul, 1) := by decide +kernel
theorem dX6_odds_57 : decode cX6_odds 57 = .ok (.istore 5, 2) := by decide +kernel
theorem dX6_odds_59 : decode cX6_odds 59 = .ok (.iinc 6 1, 3) := by decide +kernel
theorem dX6_odds_62 : decode cX6_odds 62 = .ok (.goto (-21), 3) := by decide +kernel
theorem dX6_odds_65 : decode cX6_odds 65 = .ok (.iconst 0, 1) := by decide +kernel
theorem dX6_odds_66 : decode cX6_odds 66 = .ok (.istore 6, 2) := by decide +kernel
theorem dX6_odds_68 : decode cX6_odds 68 = .ok (.iload 6, 2) := by decide +kernel
theorem dX6_odds_70 : decode cX6_odds 70 = .ok (.iconst 1, 1) := by decide +kernel
theorem dX6_odds_71 : decode cX6_odds 71 = .ok (.aload_n 0, 1) := by decide +kernel
theorem dX6_odds_72 : decode cX6_odds 72 = .ok (.getfield 13, 3) := by decide +kernel
theorem dX6_odds_75 : decode cX6_odds 75 = .ok (.iconst 0, 1) := by decide +kernel
theorem dX6_odds_76 : decode cX6_odds 76 = .ok (.iaload, 1) := by decide +kernel
theorem dX6_odds_77 : decode cX6_odds 77 = .ok (.ishl, 1) := by decide +kernel
theorem dX6_odds_78 : decode cX6_odds 78 = .ok (.if_icmp .ge 77, 3) := by decide +kernel
theorem dX6_odds_81 : decode cX6_odds 81 = .ok (.aload_n 0, 1) := by decide +kernel
theorem dX6_odds_82 : decode cX6_odds 82 = .ok (.iload 6, 2) := by decide +kernel
theorem dX6_odds_84 : decode cX6_odds 84 = .ok (.invokevirtual 145, 3) := by decide +kernel
theorem dX6_odds_87 : decode cX6_odds 87 = .ok (.iload_n 2, 1) := by decide +kernel
theorem dX6_odds_88 : decode cX6_odds 88 = .ok (.if_icmp .lt 7, 3) := by decide +kernel
theorem dX6_odds_91 : decode cX6_odds 91 = .ok (.iconst 1, 1) := by decide +kernel
theorem dX6_odds_92 : decode cX6_odds 92 = .ok (.goto 4, 3) := by decide +kernel
theorem dX6_odds_95 : decode cX6_odds 95 = .ok (.iconst 0, 1) := by decide +kernel
theorem dX6_odds_96 : decode cX6_odds 96 = .ok (.istore 7, 2) := by decide +kernel
theorem dX6_odds_98 : decode cX6_odds 98 = .ok (.iconst 0, 1) := by decide +kernel
theorem dX6_odds_99 : decode cX6_odds 99 = .ok (.istore 8, 2) := by decide +kernel
theorem dX6_odds_101 : decode cX6_odds 101 = .ok (.iload 8, 2) := by decide +kernel
theorem dX6_odds_103 : decode cX6_odds 103 = .ok (.aload_n 0, 1) := by decide +kernel
theorem dX6_odds_104 : decode cX6_odds 104 = .ok (.getfield 13, 3) := by decide +kernel
theorem dX6_odds_107 : decode cX6_odds 107 = .ok (.iconst 0, 1) := by decide +kernel
theorem dX6_odds_108 : decode cX6_odds 108 = .ok (.iaload, 1) := by decide +kernel
theorem dX6_odds_109 : decode cX6_odds 109 = .ok (.if_icmp .ge 33, 3) := by decide +kernel
theorem dX6_odds_112 : decode cX6_odds 112 = .ok (.iload 7, 2) := by decide +kernel
theorem dX6_odds_114 : decode cX6_odds 114 = .ok (.iload 6, 2) := by decide +kernel
theorem dX6_odds_116 : decode cX6_odds 116 = .ok (.iload 8, 2) := by decide +kernel
theorem dX6_odds_118 : decode cX6_odds 118 = .ok (.ishr, 1) := by decide +kernel
theorem dX6_odds_119 : decode cX6_odds 119 = .ok (.iconst 1, 1) := by decide +kernel
theorem dX6_odds_120 : decode cX6_odds 120 = .ok (.iand, 1) := by decide +kernel
theorem dX6_odds_121 : decode cX6_odds 121 = .ok (.iconst 1, 1) := by decide +kernel
theorem dX6_odds_122 : decode cX6_odds 122 = .ok (.if_icmp .ne 10, 3) := by decide +kernel
theorem dX6_odds_125 : decode cX6_odds 125 = .ok (.bipush 10, 2) := by decide +kernel
theorem dX6_odds_127 : decode cX6_odds 127 = .ok (.iload_n 1, 1) := by decide +kernel
theorem dX6_odds_128 : decode cX6_odds 128 = .ok (.isub, 1) := by decide +kernel
theorem dX6_odds_129 : decode cX6_odds 129 = .ok (.goto 4, 3) := by decide +kernel
theorem dX6_odds_132 : decode cX6_odds 132 = .ok (.iload_n 1, 1) := by decide +kernel
theorem dX6_odds_133 : decode cX6_odds 133 = .ok (.imul, 1) := by decide +kernel
theorem dX6_odds_134 : decode cX6_odds 134 = .ok (.istore 7, 2) := by decide +kernel
theorem dX6_odds_136 : decode cX6_odds 136 = .ok (.iinc 8 1, 3) := by decide +kernel
theorem dX6_odds_139 : decode cX6_odds 139 = .ok (.goto (-38), 3) := by decide +kernel
theorem dX6_odds_142 : decode cX6_odds 142 = .ok (.iload 4, 2) := by decide +kernel
theorem dX6_odds_144 : decode cX6_odds 144 = .ok (.iload 7, 2) := by decide +kernel
theorem dX6_odds_146 : decode cX6_odds 146 = .ok (.iadd, 1) := by decide +kernel
theorem dX6_odds_147 : decode cX6_odds 147 = .ok (.istore 4, 2) := by decide +kernel
theorem dX6_odds_149 : decode cX6_odds 149 = .ok (.iinc 6 1, 3) := by decide +kernel
theorem dX6_odds_152 : decode cX6_odds 152 = .ok (.goto (-84), 3) := by decide +kernel
theorem dX6_odds_155 : decode cX6_odds 155 = .ok (.iload 4, 2) := by decide +kernel
theorem dX6_odds_157 : decode cX6_odds 157 = .ok (.iload 5, 2) := by decide +kernel
theorem dX6_odds_159 : decode cX6_odds 159 = .ok (.iload_n 3, 1) := by decide +kernel
theorem dX6_odds_160 : decode cX6_odds 160 = .ok (.invokestatic 148, 3) := by decide +kernel
theorem dX6_odds_163 : decode cX6_odds 163 = .ok (.ireturn, 1) := by decide +kernel
theorem dX6_villageHas_0 : decode cX6_villageHas 0 = .ok (.iload_n 0, 1) := by decide +kernel
theorem dX6_villageHas_1 : decode cX6_villageHas 1 = .ok (.ifCond .ne 8, 3) := by decide +kernel
theorem dX6_villageHas_4 : decode cX6_villageHas 4 = .ok (.iload_n 2, 1) := by decide +kernel
theorem dX6_villageHas_5 : decode cX6_villageHas 5 = .ok (.ineg, 1) := by decide +kernel
theorem dX6_villageHas_6 : decode cX6_villageHas 6 = .ok (.goto 15, 3) := by decide +kernel
theorem dX6_villageHas_9 : decode cX6_villageHas 9 = .ok (.iload_n 1, 1) := by decide +kernel
theorem dX6_villageHas_10 : decode cX6_villageHas 10 = .ok (.ifCond .ne 7, 3) := by decide +kernel
theorem dX6_villageHas_13 : decode cX6_villageHas 13 = .ok (.iconst 0, 1) := by decide +kernel
theorem dX6_villageHas_14 : decode cX6_villageHas 14 = .ok (.goto 7, 3) := by decide +kernel
theorem dX6_villageHas_17 : decode cX6_villageHas 17 = .ok (.iload_n 2, 1) := by decide +kernel
theorem dX6_villageHas_18 : decode cX6_villageHas 18 = .ok (.ineg, 1) := by decide +kernel
theorem dX6_villageHas_19 : decode cX6_villageHas 19 = .ok (.iload_n 3, 1) := by decide +kernel
theorem dX6_villageHas_20 : decode cX6_villageHas 20 = .ok (.isub, 1) := by decide +kernel
theorem dX6_villageHas_21 : decode cX6_villageHas 21 = .ok (.ireturn, 1) := by decide +kernel
theorem dX6_buyerHas_0 : decode cX6_buyerHas 0 = .ok (.iload_n 0, 1) := by decide +kernel
theorem dX6_buyerHas_1 : decode cX6_buyerHas 1 = .ok (.ifCond .eq 8, 3) := by decide +kernel
theorem dX6_buyerHas_4 : decode cX6_buyerHas 4 = .ok (.iload_n 1, 1) := by decide +kernel
theorem dX6_buyerHas_5 : decode cX6_buyerHas 5 = .ok (.iconst 1, 1) := by decide +kernel
theorem dX6_buyerHas_6 : decode cX6_buyerHas 6 = .ok (.if_icmp .ne 7, 3) := by decide +kernel
theorem dX6_buyerHas_9 : decode cX6_buyerHas 9 = .ok (.iload_n 2, 1) := by decide +kernel
theorem dX6_buyerHas_10 : decode cX6_buyerHas 10 = .ok (.goto 4, 3) := by decide +kernel
theorem dX6_buyerHas_13 : decode cX6_buyerHas 13 = .ok (.iconst 0, 1) := by decide +kernel
theorem dX6_buyerHas_14 : decode cX6_buyerHas 14 = .ok (.istore 4, 2) := by decide +kernel
theorem dX6_buyerHas_16 : decode cX6_buyerHas 16 = .ok (.iload_n 1, 1) := by decide +kernel
theorem dX6_buyerHas_17 : decode cX6_buyerHas 17 = .ok (.iconst 1, 1) := by decide +kernel
theorem dX6_buyerHas_18 : decode cX6_buyerHas 18 = .ok (.if_icmp .ne 10, 3) := by decide +kernel
theorem dX6_buyerHas_21 : decode cX6_buyerHas 21 = .ok (.iload 4, 2) := by decide +kernel
theorem dX6_buyerHas_23 : decode cX6_buyerHas 23 = .ok (.iload_n 3, 1) := by decide +kernel
theorem dX6_buyerHas_24 : decode cX6_buyerHas 24 = .ok (.isub, 1) := by decide +kernel
theorem dX6_buyerHas_25 : decode cX6_buyerHas 25 = .ok (.goto 5, 3) := by decide +kernel
theorem dX6_buyerHas_28 : decode cX6_buyerHas 28 = .ok (.iload 4, 2) := by decide +kernel
theorem dX6_buyerHas_30 : decode cX6_buyerHas 30 = .ok (.ireturn, 1) := by decide +kernel
theorem dX6_rests_0 : decode cX6_rests 0 = .ok (.iload_n 1, 1) := by decide +kernel
theorem dX6_rests_1 : decode cX6_rests 1 = .ok (.iconst 1, 1) := by decide +kernel
theorem dX6_rests_2 : decode cX6_rests 2 = .ok (.bipush 60, 2) := by decide +kernel
theorem dX6_rests_4 : decode cX6_rests 4 = .ok (.invokestatic 54, 3) := by decide +kernel
theorem dX6_rests_7 : decode cX6_rests 7 = .ok (.ifCond .eq 23, 3) := by decide +kernel
theorem dX6_rests_10 : decode cX6_rests 10 = .ok (.iload_n 2, 1) := by decide +kernel
theorem dX6_rests_11 : decode cX6_rests 11 = .ok (.iconst 0, 1) := by decide +kernel
theorem dX6_rests_12 : decode cX6_rests 12 = .ok (.bipush 60, 2) := by decide +kernel
theorem dX6_rests_14 : decode cX6_rests 14 = .ok (.invokestatic 54, 3) := by decide +kernel
theorem dX6_rests_17 : decode cX6_rests 17 = .ok (.ifCond .eq 13, 3) := by decide +kernel
theorem dX6_rests_20 : decode cX6_rests 20 = .ok (.iload_n 3, 1) := by decide +kernel
theorem dX6_rests_21 : decode cX6_rests 21 = .ok (.iconst 0, 1) := by decide +kernel
theorem dX6_rests_22 : decode cX6_rests 22 = .ok (.bipush 60, 2) := by decide +kernel
theorem dX6_rests_24 : decode cX6_rests 24 = .ok (.invokestatic 54, 3) := by decide +kernel
theorem dX6_rests_27 : decode cX6_rests 27 = .ok (.ifCond .ne 5, 3) := by decide +kernel
theorem dX6_rests_30 : decode cX6_rests 30 = .ok (.iconst (-1), 1) := by decide +kernel
theorem dX6_rests_31 : decode cX6_rests 31 = .ok (.ireturn, 1) := by decide +kernel
theorem dX6_rests_32 : decode cX6_rests 32 = .ok (.iconst 0, 1) := by decide +kernel
theorem dX6_rests_33 : decode cX6_rests 33 = .ok (.istore 4, 2) := by decide +kernel
theorem dX6_rests_35 : decode cX6_rests 35 = .ok (.iconst 0, 1) := by decide +kernel
theorem dX6_rests_36 : decode cX6_rests 36 = .ok (.istore 5, 2) := by decide +kernel
theorem dX6_rests_38 : decode cX6_rests 38 = .ok (.iload 5, 2) := by decide +kernel
theorem dX6_rests_40 : decode cX6_rests 40 = .ok (.iconst 4, 1) := by decide +kernel
theorem dX6_rests_41 : decode cX6_rests 41 = .ok (.if_icmp .ge 92, 3) := by decide +kernel
theorem dX6_rests_44 : decode cX6_rests 44 = .ok (.iload 5, 2) := by decide +kernel
theorem dX6_rests_46 : decode cX6_rests 46 = .ok (.iconst 2, 1) := by decide +kernel
theorem dX6_rests_47 : decode cX6_rests 47 = .ok (.idiv, 1) := by decide +kernel
theorem dX6_rests_48 : decode cX6_rests 48 = .ok (.istore 6, 2) := by decide +kernel
theorem dX6_rests_50 : decode cX6_rests 50 = .ok (.iload 5, 2) := by decide +kernel
theorem dX6_rests_52 : decode cX6_rests 52 = .ok (.iconst 2, 1) := by decide +kernel
theorem dX6_rests_53 : decode cX6_rests 53 = .ok (.irem, 1) := by decide +kernel
theorem dX6_rests_54 : decode cX6_rests 54 = .ok (.istore 7, 2) := by decide +kernel
theorem dX6_rests_56 : decode cX6_rests 56 = .ok (.iload 6, 2) := by decide +kernel
theorem dX6_rests_58 : decode cX6_rests 58 = .ok (.iload 7, 2) := by decide +kernel
theorem dX6_rests_60 : decode cX6_rests 60 = .ok (.iload_n 1, 1) := by decide +kernel
theorem dX6_rests_61 : decode cX6_rests 61 = .ok (.iload_n 3, 1) := by decide +kernel
theorem dX6_rests_62 : decode cX6_rests 62 = .ok (.invokestatic 152, 3) := by decide +kernel
theorem dX6_rests_65 : decode cX6_rests 65 = .ok (.iconst 1, 1) := by decide +kernel
theorem dX6_rests_66 : decode cX6_rests 66 = .ok (.iload 6, 2) := by decide +kernel
theorem dX6_rests_68 : decode cX6_rests 68 = .ok (.isub, 1) := by decide +kernel
theorem dX6_rests_69 : decode cX6_rests 69 = .ok (.iload 7, 2) := by decide +kernel
theorem dX6_rests_71 : decode cX6_rests 71 = .ok (.iload_n 1, 1) := by decide +kernel
theorem dX6_rests_72 : decode cX6_rests 72 = .ok (.iload_n 3, 1) := by decide +kernel
theorem dX6_rests_73 : decode cX6_rests 73 = .ok (.invokestatic 152, 3) := by decide +kernel
theorem dX6_rests_76 : decode cX6_rests 76 = .ok (.if_icmp .lt 30, 3) := by decide +kernel
theorem dX6_rests_79 : decode cX6_rests 79 = .ok (.iload 6, 2) := by decide +kernel
theorem dX6_rests_81 : decode cX6_rests 81 = .ok (.iload 7, 2) := by decide +kernel
theorem dX6_rests_83 : decode cX6_rests 83 = .ok (.iload_n 1, 1) := by decide +kernel
theorem dX6_rests_84 : decode cX6_rests 84 = .ok (.iload_n 2, 1) := by decide +kernel
theorem dX6_rests_85 : decode cX6_rests 85 = .ok (.invokestatic 155, 3) := by decide +kernel
theorem dX6_rests_88 : decode cX6_rests 88 = .ok (.iload 6, 2) := by decide +kernel
theorem dX6_rests_90 : decode cX6_rests 90 = .ok (.iconst 1, 1) := by decide +kernel
theorem dX6_rests_91 : decode cX6_rests 91 = .ok (.iload 7, 2) := by decide +kernel
theorem dX6_rests_93 : decode cX6_rests 93 = .ok (.isub, 1) := by decide +kernel
theorem dX6_rests_94 : decode cX6_rests 94 = .ok (.iload_n 1, 1) := by decide +kernel
theorem dX6_rests_95 : decode cX6_rests 95 = .ok (.iload_n 2, 1) := by decide +kernel
theorem dX6_rests_96 : decode cX6_rests 96 = .ok (.invokestatic 155, 3) := by decide +kernel
theorem dX6_rests_99 : decode cX6_rests 99 = .ok (.if_icmp .lt 7, 3) := by decide +kernel
theorem dX6_rests_102 : decode cX6_rests 102 = .ok (.iconst 1, 1) := by decide +kernel
theorem dX6_rests_103 : decode cX6_rests 103 = .ok (.goto 4, 3) := by decide +kernel
theorem dX6_rests_106 : decode cX6_rests 106 = .ok (.iconst 0, 1) := by decide +kernel
theorem dX6_rests_107 : decode cX6_rests 107 = .ok (.istore 8, 2) := by decide +kernel
theorem dX6_rests_109 : decode cX6_rests 109 = .ok (.iload 4, 2) := by decide +kernel
theorem dX6_rests_111 : decode cX6_rests 111 = .ok (.iload 8, 2) := by decide +kernel
theorem dX6_rests_113 : decode cX6_rests 113 = .ok (.ifCond .eq 10, 3) := by decide +kernel
theorem dX6_rests_116 : decode cX6_rests 116 = .ok (.iconst 1, 1) := by decide +kernel
theorem dX6_rests_117 : decode cX6_rests 117 = .ok (.iload 5, 2) := by decide +kernel
theorem dX6_rests_119 : decode cX6_rests 119 = .ok (.ishl, 1) := by decide +kernel
theorem dX6_rests_120 : decode cX6_rests 120 = .ok (.goto 4, 3) := by decide +kernel
theorem dX6_rests_123 : decode cX6_rests 123 = .ok (.iconst 0, 1) := by decide +kernel
theorem dX6_rests_124 : decode cX6_rests 124 = .ok (.ior, 1) := by decide +kernel
theorem dX6_rests_125 : decode cX6_rests 125 = .ok (.istore 4, 2) := by decide +kernel
theorem dX6_rests_127 : decode cX6_rests 127 = .ok (.iinc 5 1, 3) := by decide +kernel
theorem dX6_rests_130 : decode cX6_rests 130 = .ok (.goto (-92), 3) := by decide +kernel
theorem dX6_rests_133 : decode cX6_rests 133 = .ok (.iload 4, 2) := by decide +kernel
theorem dX6_rests_135 : decode cX6_rests 135 = .ok (.ireturn, 1) := by decide +kernel
theorem dX6_mixed_0 : decode cX6_mixed 0 = .ok (.iload_n 1, 1) := by decide +kernel
theorem dX6_mixed_1 : decode cX6_mixed 1 = .ok (.iconst 1, 1) := by decide +kernel
theorem dX6_mixed_2 : decode cX6_mixed 2 = .ok (.bipush 60, 2) := by decide +kernel
theorem dX6_mixed_4 : decode cX6_mixed 4 = .ok (.invokestatic 54, 3) := by decide +kernel
theorem dX6_mixed_7 : decode cX6_mixed 7 = .ok (.ifCond .eq 22, 3) := by decide +kernel
theorem dX6_mixed_10 : decode cX6_mixed 10 = .ok (.iload_n 2, 1) := by decide +kernel
theorem dX6_mixed_11 : decode cX6_mixed 11 = .ok (.iconst 0, 1) := by decide +kernel
theorem dX6_mixed_12 : decode cX6_mixed 12 = .ok (.bipush 60, 2) := by decide +kernel
theorem dX6_mixed_14 : decode cX6_mixed 14 = .ok (.invokestatic 54, 3) := by decide +kernel
theorem dX6_mixed_17 : decode cX6_mixed 17 = .ok (.ifCond .eq 12, 3) := by decide +kernel
theorem dX6_mixed_20 : decode cX6_mixed 20 = .ok (.iload_n 3, 1) := by decide +kernel
theorem dX6_mixed_21 : decode cX6_mixed 21 = .ok (.iconst 0, 1) := by decide +kernel
theorem dX6_mixed_22 : decode cX6_mixed 22 = .ok (.iconst 1, 1) := by decide +kernel
theorem dX6_mixed_23 : decode cX6_mixed 23 = .ok (.invokestatic 54, 3) := by decide +kernel
theorem dX6_mixed_26 : decode cX6_mixed 26 = .ok (.ifCond .ne 5, 3) := by decide +kernel
theorem dX6_mixed_29 : decode cX6_mixed 29 = .ok (.iconst (-1), 1) := by decide +kernel
theorem dX6_mixed_30 : decode cX6_mixed 30 = .ok (.ireturn, 1) := by decide +kernel
theorem dX6_mixed_31 : decode cX6_mixed 31 = .ok (.iload_n 1, 1) := by decide +kernel
theorem dX6_mixed_32 : decode cX6_mixed 32 = .ok (.iload_n 1, 1) := by decide +kernel
theorem dX6_mixed_33 : decode cX6_mixed 33 = .ok (.iload_n 2, 1) := by decide +kernel
theorem dX6_mixed_34 : decode cX6_mixed 34 = .ok (.iadd, 1) := by decide +kernel
theorem dX6_mixed_35 : decode cX6_mixed 35 = .ok (.iload_n 3, 1) := by decide +kernel
theorem dX6_mixed_36 : decode cX6_mixed 36 = .ok (.invokestatic 148, 3) := by decide +kernel
theorem dX6_mixed_39 : decode cX6_mixed 39 = .ok (.ireturn, 1) := by decide +kernel
theorem dX6_leastOf_0 : decode cX6_leastOf 0 = .ok (.iconst 0, 1) := by decide +kernel
theorem dX6_leastOf_1 : decode cX6_leastOf 1 = .ok (.istore_n 2, 1) := by decide +kernel
theorem dX6_leastOf_2 : decode cX6_leastOf 2 = .ok (.bipush (-9), 2) := by decide +kernel
theorem dX6_leastOf_4 : decode cX6_leastOf 4 = .ok (.istore_n 3, 1) := by decide +kernel
theorem dX6_leastOf_5 : decode cX6_leastOf 5 = .ok (.iconst 0, 1) := by decide +kernel
theorem dX6_leastOf_6 : decode cX6_leastOf 6 = .ok (.istore 4, 2) := by decide +kernel
theorem dX6_leastOf_8 : decode cX6_leastOf 8 = .ok (.iload 4, 2) := by decide +kernel
theorem dX6_leastOf_10 : decode cX6_leastOf 10 = .ok (.iload_n 1, 1) := by decide +kernel
theorem dX6_leastOf_11 : decode cX6_leastOf 11 = .ok (.if_icmp .ge 151, 3) := by decide +kernel
theorem dX6_leastOf_14 : decode cX6_leastOf 14 = .ok (.aload_n 0, 1) := by decide +kernel
theorem dX6_leastOf_15 : decode cX6_leastOf 15 = .ok (.getfield 45, 3) := by decide +kernel
theorem dX6_leastOf_18 : decode cX6_leastOf 18 = .ok (.iload 4, 2) := by decide +kernel
theorem dX6_leastOf_20 : decode cX6_leastOf 20 = .ok (.iaload, 1) := by decide +kernel
theorem dX6_leastOf_21 : decode cX6_leastOf 21 = .ok (.istore 5, 2) := by decide +kernel
theorem dX6_leastOf_23 : decode cX6_leastOf 23 = .ok (.aload_n 0, 1) := by decide +kernel
theorem dX6_leastOf_24 : decode cX6_leastOf 24 = .ok (.getfield 45, 3) := by decide +kernel
theorem dX6_leastOf_27 : decode cX6_leastOf 27 = .ok (.iload 4, 2) := by decide +kernel
theorem dX6_leastOf_29 : decode cX6_leastOf 29 = .ok (.iconst 1, 1) := by decide +kernel
theorem dX6_leastOf_30 : decode cX6_leastOf 30 = .ok (.iadd, 1) := by decide +kernel
theorem dX6_leastOf_31 : decode cX6_leastOf 31 = .ok (.iload_n 1, 1) := by decide +kernel
theorem dX6_leastOf_32 : decode cX6_leastOf 32 = .ok (.if_icmp .ge 10, 3) := by decide +kernel
theorem dX6_leastOf_35 : decode cX6_leastOf 35 = .ok (.iload 4, 2) := by decide +kernel
theorem dX6_leastOf_37 : decode cX6_leastOf 37 = .ok (.iconst 1, 1) := by decide +kernel
theorem dX6_leastOf_38 : decode cX6_leastOf 38 = .ok (.iadd, 1) := by decide +kernel
theorem dX6_leastOf_39 : decode cX6_leastOf 39 = .ok (.goto 4, 3) := by decide +kernel
theorem dX6_leastOf_42 : decode cX6_leastOf 42 = .ok (.iconst 0, 1) := by decide +kernel
theorem dX6_leastOf_43 : decode cX6_leastOf 43 = .ok (.iaload, 1) := by decide +kernel
theorem dX6_leastOf_44 : decode cX6_leastOf 44 = .ok (.istore 6, 2) := by decide +kernel
theorem dX6_leastOf_46 : decode cX6_leastOf 46 = .ok (.iload 5, 2) := by decide +kernel
theorem dX6_leastOf_48 : decode cX6_leastOf 48 = .ok (.aload_n 0, 1) := by decide +kernel
theorem dX6_leastOf_49 : decode cX6_leastOf 49 = .ok (.getfield 13, 3) := by decide +kernel
theorem dX6_leastOf_52 : decode cX6_leastOf 52 = .ok (.iconst 0, 1) := by decide +kernel
theorem dX6_leastOf_53 : decode cX6_leastOf 53 = .ok (.iaload, 1) := by decide +kernel
theorem dX6_leastOf_54 : decode cX6_leastOf 54 = .ok (.if_icmp .ge 51, 3) := by decide +kernel
theorem dX6_leastOf_57 : decode cX6_leastOf 57 = .ok (.iload 6, 2) := by decide +kernel
theorem dX6_leastOf_59 : decode cX6_leastOf 59 = .ok (.aload_n 0, 1) := by decide +kernel
theorem dX6_leastOf_60 : decode cX6_leastOf 60 = .ok (.getfield 13, 3) := by decide +kernel
theorem dX6_leastOf_63 : decode cX6_leastOf 63 = .ok (.iconst 0, 1) := by decide +kernel
theorem dX6_leastOf_64 : decode cX6_leastOf 64 = .ok (.iaload, 1) := by decide +kernel
theorem dX6_leastOf_65 : decode cX6_leastOf 65 = .ok (.if_icmp .ge 40, 3) := by decide +kernel
theorem dX6_leastOf_68 : decode cX6_leastOf 68 = .ok (.iload 5, 2) := by decide +kernel
theorem dX6_leastOf_70 : decode cX6_leastOf 70 = .ok (.aload_n 0, 1) := by decide +kernel
theorem dX6_leastOf_71 : decode cX6_leastOf 71 = .ok (.getfield 45, 3) := by decide +kernel
theorem dX6_leastOf_74 : decode cX6_leastOf 74 = .ok (.iconst 0, 1) := by decide +kernel
theorem dX6_leastOf_75 : decode cX6_leastOf 75 = .ok (.iaload, 1) := by decide +kernel
theorem dX6_leastOf_76 : decode cX6_leastOf 76 = .ok (.if_icmp .lt 29, 3) := by decide +kernel
theorem dX6_leastOf_79 : decode cX6_leastOf 79 = .ok (.iload_n 2, 1) := by decide +kernel
theorem dX6_leastOf_80 : decode cX6_leastOf 80 = .ok (.iload 5, 2) := by decide +kernel
theorem dX6_leastOf_82 : decode cX6_leastOf 82 = .ok (.ishr, 1) := by decide +kernel
theorem dX6_leastOf_83 : decode cX6_leastOf 83 = .ok (.iconst 1, 1) := by decide +kernel
theorem dX6_leastOf_84 : decode cX6_leastOf 84 = .ok (.iand, 1) := by decide +kernel
theorem dX6_leastOf_85 : decode cX6_leastOf 85 = .ok (.iconst 1, 1) := by decide +kernel
theorem dX6_leastOf_86 : decode cX6_leastOf 86 = .ok (.if_icmp .eq 19, 3) := by decide +kernel
theorem dX6_leastOf_89 : decode cX6_leastOf 89 = .ok (.aload_n 0, 1) := by decide +kernel
theorem dX6_leastOf_90 : decode cX6_leastOf 90 = .ok (.getfield 32, 3) := by decide +kernel
theorem dX6_leastOf_93 : decode cX6_leastOf 93 = .ok (.bipush 6, 2) := by decide +kernel
theorem dX6_leastOf_95 : decode cX6_leastOf 95 = .ok (.iload 5, 2) := by decide +kernel
theorem dX6_leastOf_97 : decode cX6_leastOf 97 = .ok (.imul, 1) := by decide +kernel
theorem dX6_leastOf_98 : decode cX6_leastOf 98 = .ok (.iload 6, 2) := by decide +kernel
theorem dX6_leastOf_100 : decode cX6_leastOf 100 = .ok (.iadd, 1) := by decide +kernel
theorem dX6_leastOf_101 : decode cX6_leastOf 101 = .ok (.iaload, 1) := by decide +kernel
theorem dX6_leastOf_102 : decode cX6_leastOf 102 = .ok (.ifCond .ne 6, 3) := by decide +kernel
theorem dX6_leastOf_105 : decode cX6_leastOf 105 = .ok (.bipush (-9), 2) := by decide +kernel
theorem dX6_leastOf_107 : decode cX6_leastOf 107 = .ok (.ireturn, 1) := by decide +kernel
theorem dX6_leastOf_108 : decode cX6_leastOf 108 = .ok (.iload_n 2, 1) := by decide +kernel
theorem dX6_leastOf_109 : decode cX6_leastOf 109 = .ok (.iconst 1, 1) := by decide +kernel
theorem dX6_leastOf_110 : decode cX6_leastOf 110 = .ok (.iload 5, 2) := by decide +kernel
theorem dX6_leastOf_112 : decode cX6_leastOf 112 = .ok (.ishl, 1) := by decide +kernel
theorem dX6_leastOf_113 : decode cX6_leastOf 113 = .ok (.ior, 1) := by decide +kernel
theorem dX6_leastOf_114 : decode cX6_leastOf 114 = .ok (.istore_n 2, 1) := by decide +kernel
theorem dX6_leastOf_115 : decode cX6_leastOf 115 = .ok (.iload_n 3, 1) := by decide +kernel
theorem dX6_leastOf_116 : decode cX6_leastOf 116 = .ok (.bipush (-9), 2) := by decide +kernel
theorem dX6_leastOf_118 : decode cX6_leastOf 118 = .ok (.if_icmp .eq 20, 3) := by decide +kernel
theorem dX6_leastOf_121 : decode cX6_leastOf 121 = .ok (.aload_n 0, 1) := by decide +kernel
theorem dX6_leastOf_122 : decode cX6_leastOf 122 = .ok (.getfield 32, 3) := by decide +kernel
theorem dX6_leastOf_125 : decode cX6_leastOf 125 = .ok (.bipush 6, 2) := by decide +kernel
theorem dX6_leastOf_127 : decode cX6_leastOf 127 = .ok (.iload 5, 2) := by decide +kernel
theorem dX6_leastOf_129 : decode cX6_leastOf 129 = .ok (.imul, 1) := by decide +kernel
theorem dX6_leastOf_130 : decode cX6_leastOf 130 = .ok (.iload 6, 2) := by decide +kernel
theorem dX6_leastOf_132 : decode cX6_leastOf 132 = .ok (.iadd, 1) := by decide +kernel
theorem dX6_leastOf_133 : decode cX6_leastOf 133 = .ok (.iaload, 1) := by decide +kernel
theorem dX6_leastOf_134 : decode cX6_leastOf 134 = .ok (.iload_n 3, 1) := by decide +kernel
theorem dX6_leastOf_135 : decode cX6_leastOf 135 = .ok (.if_icmp .ge 19, 3) := by decide +kernel
theorem dX6_leastOf_138 : decode cX6_leastOf 138 = .ok (.aload_n 0, 1) := by decide +kernel
theorem dX6_leastOf_139 : decode cX6_leastOf 139 = .ok (.getfield 32, 3) := by decide +kernel
theorem dX6_leastOf_142 : decode cX6_leastOf 142 = .ok (.bipush 6, 2) := by decide +kernel
theorem dX6_leastOf_144 : decode cX6_leastOf 144 = .ok (.iload 5, 2) := by decide +kernel
theorem dX6_leastOf_146 : decode cX6_leastOf 146 = .ok (.imul, 1) := by decide +kernel
theorem dX6_leastOf_147 : decode cX6_leastOf 147 = .ok (.iload 6, 2) := by decide +kernel
theorem dX6_leastOf_149 : decode cX6_leastOf 149 = .ok (.iadd, 1) := by decide +kernel
theorem dX6_leastOf_150 : decode cX6_leastOf 150 = .ok (.iaload, 1) := by decide +kernel
theorem dX6_leastOf_151 : decode cX6_leastOf 151 = .ok (.goto 4, 3) := by decide +kernel
theorem dX6_leastOf_154 : decode cX6_leastOf 154 = .ok (.iload_n 3, 1) := by decide +kernel
theorem dX6_leastOf_155 : decode cX6_leastOf 155 = .ok (.istore_n 3, 1) := by decide +kernel
theorem dX6_leastOf_156 : decode cX6_leastOf 156 = .ok (.iinc 4 1, 3) := by decide +kernel
theorem dX6_leastOf_159 : decode cX6_leastOf 159 = .ok (.goto (-151), 3) := by decide +kernel
theorem dX6_leastOf_162 : decode cX6_leastOf 162 = .ok (.iload_n 3, 1) := by decide +kernel
theorem dX6_leastOf_163 : decode cX6_leastOf 163 = .ok (.ireturn, 1) := by decide +kernel
theorem dX6_ring_0 : decode cX6_ring 0 = .ok (.iload_n 1, 1) := by decide +kernel
theorem dX6_ring_1 : decode cX6_ring 1 = .ok (.bipush (-2), 2) := by decide +kernel
theorem dX6_ring_3 : decode cX6_ring 3 = .ok (.iconst 5, 1) := by decide +kernel
theorem dX6_ring_4 : decode cX6_ring 4 = .ok (.invokestatic 54, 3) := by decide +kernel
theorem dX6_ring_7 : decode cX6_ring 7 = .ok (.ifCond .ne 5, 3) := by decide +kernel
theorem dX6_ring_10 : decode cX6_ring 10 = .ok (.iconst (-1), 1) := by decide +kernel
theorem dX6_ring_11 : decode cX6_ring 11 = .ok (.ireturn, 1) := by decide +kernel
theorem dX6_ring_12 : decode cX6_ring 12 = .ok (.bipush 36, 2) := by decide +kernel
theorem dX6_ring_14 : decode cX6_ring 14 = .ok (.istore_n 2, 1) := by decide +kernel
theorem dX6_ring_15 : decode cX6_ring 15 = .ok (.iconst 2, 1) := by decide +kernel
theorem dX6_ring_16 : decode cX6_ring 16 = .ok (.istore_n 3, 1) := by decide +kernel
theorem dX6_ring_17 : decode cX6_ring 17 = .ok (.iload_n 3, 1) := by decide +kernel
theorem dX6_ring_18 : decode cX6_ring 18 = .ok (.aload_n 0, 1) := by decide +kernel
theorem dX6_ring_19 : decode cX6_ring 19 = .ok (.getfield 13, 3) := by decide +kernel
theorem dX6_ring_22 : decode cX6_ring 22 = .ok (.iconst 0, 1) := by decide +kernel
theorem dX6_ring_23 : decode cX6_ring 23 = .ok (.iaload, 1) := by decide +kernel
theorem dX6_ring_24 : decode cX6_ring 24 = .ok (.if_icmp .gt 87, 3) := by decide +kernel
theorem dX6_ring_27 : decode cX6_ring 27 = .ok (.iconst 0, 1) := by decide +kernel
theorem dX6_ring_28 : decode cX6_ring 28 = .ok (.istore 4, 2) := by decide +kernel
theorem dX6_ring_30 : decode cX6_ring 30 = .ok (.iload 4, 2) := by decide +kernel
theorem dX6_ring_32 : decode cX6_ring 32 = .ok (.iload_n 2, 1) := by decide +kernel
theorem dX6_ring_33 : decode cX6_ring 33 = .ok (.if_icmp .ge 67, 3) := by decide +kernel
theorem dX6_ring_36 : decode cX6_ring 36 = .ok (.aload_n 0, 1) := by decide +kernel
theorem dX6_ring_37 : decode cX6_ring 37 = .ok (.iload 4, 2) := by decide +kernel
theorem dX6_ring_39 : decode cX6_ring 39 = .ok (.iload_n 3, 1) := by decide +kernel
theorem dX6_ring_40 : decode cX6_ring 40 = .ok (.invokevirtual 126, 3) := by decide +kernel
theorem dX6_ring_43 : decode cX6_ring 43 = .ok (.aload_n 0, 1) := by decide +kernel
theorem dX6_ring_44 : decode cX6_ring 44 = .ok (.iload_n 3, 1) := by decide +kernel
theorem dX6_ring_45 : decode cX6_ring 45 = .ok (.invokevirtual 158, 3) := by decide +kernel
theorem dX6_ring_48 : decode cX6_ring 48 = .ok (.istore 5, 2) := by decide +kernel
theorem dX6_ring_50 : decode cX6_ring 50 = .ok (.iload 5, 2) := by decide +kernel
theorem dX6_ring_52 : decode cX6_ring 52 = .ok (.bipush (-9), 2) := by decide +kernel
theorem dX6_ring_54 : decode cX6_ring 54 = .ok (.if_icmp .eq 40, 3) := by decide +kernel
theorem dX6_ring_57 : decode cX6_ring 57 = .ok (.iload_n 1, 1) := by decide +kernel
theorem dX6_ring_58 : decode cX6_ring 58 = .ok (.iconst (-1), 1) := by decide +kernel
theorem dX6_ring_59 : decode cX6_ring 59 = .ok (.if_icmp .ne 7, 3) := by decide +kernel
theorem dX6_ring_62 : decode cX6_ring 62 = .ok (.iload_n 3, 1) := by decide +kernel
theorem dX6_ring_63 : decode cX6_ring 63 = .ok (.goto 30, 3) := by decide +kernel
theorem dX6_ring_66 : decode cX6_ring 66 = .ok (.iload_n 1, 1) := by decide +kernel
theorem dX6_ring_67 : decode cX6_ring 67 = .ok (.bipush (-2), 2) := by decide +kernel
theorem dX6_ring_69 : decode cX6_ring 69 = .ok (.if_icmp .ne 8, 3) := by decide +kernel
theorem dX6_ring_72 : decode cX6_ring 72 = .ok (.iload 5, 2) := by decide +kernel
theorem dX6_ring_74 : decode cX6_ring 74 = .ok (.goto 19, 3) := by decide +kernel
theorem dX6_ring_77 : decode cX6_ring 77 = .ok (.iload_n 1, 1) := by decide +kernel
theorem dX6_ring_78 : decode cX6_ring 78 = .ok (.iload_n 3, 1) := by decide +kernel
theorem dX6_ring_79 : decode cX6_ring 79 = .ok (.if_icmp .ge 12, 3) := by decide +kernel
theorem dX6_ring_82 : decode cX6_ring 82 = .ok (.aload_n 0, 1) := by decide +kernel
theorem dX6_ring_83 : decode cX6_ring 83 = .ok (.getfield 45, 3) := by decide +kernel
theorem dX6_ring_86 : decode cX6_ring 86 = .ok (.iload_n 1, 1) := by decide +kernel
theorem dX6_ring_87 : decode cX6_ring 87 = .ok (.iaload, 1) := by decide +kernel
theorem dX6_ring_88 : decode cX6_ring 88 = .ok (.goto 5, 3) := by decide +kernel
theorem dX6_ring_91 : decode cX6_ring 91 = .ok (.bipush (-9), 2) := by decide +kernel
theorem dX6_ring_93 : decode cX6_ring 93 = .ok (.ireturn, 1) := by decide +kernel
theorem dX6_ring_94 : decode cX6_ring 94 = .ok (.iinc 4 1, 3) := by decide +kernel
theorem dX6_ring_97 : decode cX6_ring 97 = .ok (.goto (-67), 3) := by decide +kernel
theorem dX6_ring_100 : decode cX6_ring 100 = .ok (.iload_n 2, 1) := by decide +kernel
theorem dX6_ring_101 : decode cX6_ring 101 = .ok (.bipush 6, 2) := by decide +kernel
theorem dX6_ring_103 : decode cX6_ring 103 = .ok (.imul, 1) := by decide +kernel
theorem dX6_ring_104 : decode cX6_ring 104 = .ok (.istore_n 2, 1) := by decide +kernel
theorem dX6_ring_105 : decode cX6_ring 105 = .ok (.iinc 3 1, 3) := by decide +kernel
theorem dX6_ring_108 : decode cX6_ring 108 = .ok (.goto (-91), 3) := by decide +kernel
theorem dX6_ring_111 : decode cX6_ring 111 = .ok (.bipush (-9), 2) := by decide +kernel
theorem dX6_ring_113 : decode cX6_ring 113 = .ok (.ireturn, 1) := by decide +kernel
theorem dX6_net_0 : decode cX6_net 0 = .ok (.aload_n 0, 1) := by decide +kernel
theorem dX6_net_1 : decode cX6_net 1 = .ok (.iload_n 1, 1) := by decide +kernel
theorem dX6_net_2 : decode cX6_net 2 = .ok (.invokevirtual 107, 3) := by decide +kernel
theorem dX6_net_5 : decode cX6_net 5 = .ok (.ifCond .ne 6, 3) := by decide +kernel
theorem dX6_net_8 : decode cX6_net 8 = .ok (.ldc 161, 2) := by decide +kernel
theorem dX6_net_10 : decode cX6_net 10 = .ok (.ireturn, 1) := by decide +kernel
theorem dX6_net_11 : decode cX6_net 11 = .ok (.iconst 0, 1) := by decide +kernel
theorem dX6_net_12 : decode cX6_net 12 = .ok (.istore_n 2, 1) := by decide +kernel
theorem dX6_net_13 : decode cX6_net 13 = .ok (.iconst 0, 1) := by decide +kernel
theorem dX6_net_14 : decode cX6_net 14 = .ok (.istore_n 3, 1) := by decide +kernel
theorem dX6_net_15 : decode cX6_net 15 = .ok (.iload_n 3, 1) := by decide +kernel
theorem dX6_net_16 : decode cX6_net 16 = .ok (.aload_n 0, 1) := by decide +kernel
theorem dX6_net_17 : decode cX6_net 17 = .ok (.getfield 13, 3) := by decide +kernel
theorem dX6_net_20 : decode cX6_net 20 = .ok (.iconst 0, 1) := by decide +kernel
theorem dX6_net_21 : decode cX6_net 21 = .ok (.iaload, 1) := by decide +kernel
theorem dX6_net_22 : decode cX6_net 22 = .ok (.if_icmp .ge 35, 3) := by decide +kernel
theorem dX6_net_25 : decode cX6_net 25 = .ok (.iload_n 2, 1) := by decide +kernel
theorem dX6_net_26 : decode cX6_net 26 = .ok (.aload_n 0, 1) := by decide +kernel
theorem dX6_net_27 : decode cX6_net 27 = .ok (.getfield 32, 3) := by decide +kernel
theorem dX6_net_30 : decode cX6_net 30 = .ok (.bipush 6, 2) := by decide +kernel
theorem dX6_net_32 : decode cX6_net 32 = .ok (.iload_n 3, 1) := by decide +kernel
theorem dX6_net_33 : decode cX6_net 33 = .ok (.imul, 1) := by decide +kernel
theorem dX6_net_34 : decode cX6_net 34 = .ok (.iload_n 1, 1) := by decide +kernel
theorem dX6_net_35 : decode cX6_net 35 = .ok (.iadd, 1) := by decide +kernel
theorem dX6_net_36 : decode cX6_net 36 = .ok (.iaload, 1) := by decide +kernel
theorem dX6_net_37 : decode cX6_net 37 = .ok (.aload_n 0, 1) := by decide +kernel
theorem dX6_net_38 : decode cX6_net 38 = .ok (.getfield 32, 3) := by decide +kernel
theorem dX6_net_41 : decode cX6_net 41 = .ok (.bipush 6, 2) := by decide +kernel
theorem dX6_net_43 : decode cX6_net 43 = .ok (.iload_n 1, 1) := by decide +kernel
theorem dX6_net_44 : decode cX6_net 44 = .ok (.imul, 1) := by decide +kernel
theorem dX6_net_45 : decode cX6_net 45 = .ok (.iload_n 3, 1) := by decide +kernel
theorem dX6_net_46 : decode cX6_net 46 = .ok (.iadd, 1) := by decide +kernel
theorem dX6_net_47 : decode cX6_net 47 = .ok (.iaload, 1) := by decide +kernel
theorem dX6_net_48 : decode cX6_net 48 = .ok (.isub, 1) := by decide +kernel
theorem dX6_net_49 : decode cX6_net 49 = .ok (.iadd, 1) := by decide +kernel
theorem dX6_net_50 : decode cX6_net 50 = .ok (.istore_n 2, 1) := by decide +kernel
theorem dX6_net_51 : decode cX6_net 51 = .ok (.iinc 3 1, 3) := by decide +kernel
theorem dX6_net_54 : decode cX6_net 54 = .ok (.goto (-39), 3) := by decide +kernel
theorem dX6_net_57 : decode cX6_net 57 = .ok (.iload_n 2, 1) := by decide +kernel
theorem dX6_net_58 : decode cX6_net 58 = .ok (.ireturn, 1) := by decide +kernel
theorem dX6_mark_0 : decode cX6_mark 0 = .ok (.iload_n 1, 1) := by decide +kernel
theorem dX6_mark_1 : decode cX6_mark 1 = .ok (.iconst 0, 1) := by decide +kernel
theorem dX6_mark_2 : decode cX6_mark 2 = .ok (.iconst 5, 1) := by decide +kernel
theorem dX6_mark_3 : decode cX6_mark 3 = .ok (.invokestatic 54, 3) := by decide +kernel
theorem dX6_mark_6 : decode cX6_mark 6 = .ok (.ifCond .eq 11, 3) := by decide +kernel
theorem dX6_mark_9 : decode cX6_mark 9 = .ok (.aload_n 0, 1) := by decide +kernel
theorem dX6_mark_10 : decode cX6_mark 10 = .ok (.iload_n 2, 1) := by decide +kernel
theorem dX6_mark_11 : decode cX6_mark 11 = .ok (.invokevirtual 107, 3) := by decide +kernel
theorem dX6_mark_14 : decode cX6_mark 14 = .ok (.ifCond .ne 6, 3) := by decide +kernel
theorem dX6_mark_17 : decode cX6_mark 17 = .ok (.ldc 161, 2) := by decide +kernel
theorem dX6_mark_19 : decode cX6_mark 19 = .ok (.ireturn, 1) := by decide +kernel
theorem dX6_mark_20 : decode cX6_mark 20 = .ok (.aload_n 0, 1) := by decide +kernel
theorem dX6_mark_21 : decode cX6_mark 21 = .ok (.getfield 38, 3) := by decide +kernel
theorem dX6_mark_24 : decode cX6_mark 24 = .ok (.iconst 4, 1) := by decide +kernel
theorem dX6_mark_25 : decode cX6_mark 25 = .ok (.iload_n 2, 1) := by decide +kernel
theorem dX6_mark_26 : decode cX6_mark 26 = .ok (.iadd, 1) := by decide +kernel
theorem dX6_mark_27 : decode cX6_mark 27 = .ok (.iaload, 1) := by decide +kernel
theorem dX6_mark_28 : decode cX6_mark 28 = .ok (.aload_n 0, 1) := by decide +kernel
theorem dX6_mark_29 : decode cX6_mark 29 = .ok (.getfield 38, 3) := by decide +kernel
theorem dX6_mark_32 : decode cX6_mark 32 = .ok (.bipush 10, 2) := by decide +kernel
theorem dX6_mark_34 : decode cX6_mark 34 = .ok (.iload_n 2, 1) := by decide +kernel
theorem dX6_mark_35 : decode cX6_mark 35 = .ok (.iadd, 1) := by decide +kernel
theorem dX6_mark_36 : decode cX6_mark 36 = .ok (.iaload, 1) := by decide +kernel
theorem dX6_mark_37 : decode cX6_mark 37 = .ok (.iadd, 1) := by decide +kernel
theorem dX6_mark_38 : decode cX6_mark 38 = .ok (.istore_n 3, 1) := by decide +kernel
theorem dX6_mark_39 : decode cX6_mark 39 = .ok (.aload_n 0, 1) := by decide +kernel
theorem dX6_mark_40 : decode cX6_mark 40 = .ok (.getfield 38, 3) := by decide +kernel
theorem dX6_mark_43 : decode cX6_mark 43 = .ok (.iconst 4, 1) := by decide +kernel
theorem dX6_mark_44 : decode cX6_mark 44 = .ok (.iload_n 2, 1) := by decide +kernel
theorem dX6_mark_45 : decode cX6_mark 45 = .ok (.iadd, 1) := by decide +kernel
theorem dX6_mark_46 : decode cX6_mark 46 = .ok (.iaload, 1) := by decide +kernel
theorem dX6_mark_47 : decode cX6_mark 47 = .ok (.aload_n 0, 1) := by decide +kernel
theorem dX6_mark_48 : decode cX6_mark 48 = .ok (.getfield 20, 3) := by decide +kernel
theorem dX6_mark_51 : decode cX6_mark 51 = .ok (.iload_n 2, 1) := by decide +kernel
theorem dX6_mark_52 : decode cX6_mark 52 = .ok (.iaload, 1) := by decide +kernel
theorem dX6_mark_53 : decode cX6_mark 53 = .ok (.isub, 1) := by decide +kernel
theorem dX6_mark_54 : decode cX6_mark 54 = .ok (.istore 4, 2) := by decide +kernel
theorem dX6_mark_56 : decode cX6_mark 56 = .ok (.iload_n 1, 1) := by decide +kernel
theorem dX6_mark_57 : decode cX6_mark 57 = .ok (.tableswitch 124 0 4 #[35, 54, 68, 83, 99], 35) := by decide +kernel
theorem dX6_mark_92 : decode cX6_mark 92 = .ok (.aload_n 0, 1) := by decide +kernel
theorem dX6_mark_93 : decode cX6_mark 93 = .ok (.dup, 1) := by decide +kernel
theorem dX6_mark_94 : decode cX6_mark 94 = .ok (.getfield 162, 3) := by decide +kernel
theorem dX6_mark_97 : decode cX6_mark 97 = .ok (.lconst 1, 1) := by decide +kernel
theorem dX6_mark_98 : decode cX6_mark 98 = .ok (.ladd, 1) := by decide +kernel
theorem dX6_mark_99 : decode cX6_mark 99 = .ok (.putfield 162, 3) := by decide +kernel
theorem dX6_mark_102 : decode cX6_mark 102 = .ok (.aload_n 0, 1) := by decide +kernel
theorem dX6_mark_103 : decode cX6_mark 103 = .ok (.getfield 38, 3) := by decide +kernel
theorem dX6_mark_106 : decode cX6_mark 106 = .ok (.iconst 4, 1) := by decide +kernel
theorem dX6_mark_107 : decode cX6_mark 107 = .ok (.iload_n 2, 1) := by decide +kernel
theorem dX6_mark_108 : decode cX6_mark 108 = .ok (.iadd, 1) := by decide +kernel
theorem dX6_mark_109 : decode cX6_mark 109 = .ok (.iaload, 1) := by decide +kernel
theorem dX6_mark_110 : decode cX6_mark 110 = .ok (.ireturn, 1) := by decide +kernel
theorem dX6_mark_111 : decode cX6_mark 111 = .ok (.aload_n 0, 1) := by decide +kernel
theorem dX6_mark_112 : decode cX6_mark 112 = .ok (.dup, 1) := by decide +kernel
theorem dX6_mark_113 : decode cX6_mark 113 = .ok (.getfield 162, 3) := by decide +kernel
theorem dX6_mark_116 : decode cX6_mark 116 = .ok (.ldc2_w 166, 3) := by decide +kernel
theorem dX6_mark_119 : decode cX6_mark 119 = .ok (.ladd, 1) := by decide +kernel
theorem dX6_mark_120 : decode cX6_mark 120 = .ok (.putfield 162, 3) := by decide +kernel
theorem dX6_mark_123 : decode cX6_mark 123 = .ok (.iload_n 3, 1) := by decide +kernel
theorem dX6_mark_124 : decode cX6_mark 124 = .ok (.ireturn, 1) := by decide +kernel
theorem dX6_mark_125 : decode cX6_mark 125 = .ok (.aload_n 0, 1) := by decide +kernel
theorem dX6_mark_126 : decode cX6_mark 126 = .ok (.dup, 1) := by decide +kernel
theorem dX6_mark_127 : decode cX6_mark 127 = .ok (.getfield 162, 3) := by decide +kernel
theorem dX6_mark_130 : decode cX6_mark 130 = .ok (.ldc2_w 168, 3) := by decide +kernel
theorem dX6_mark_133 : decode cX6_mark 133 = .ok (.ladd, 1) := by decide +kernel
theorem dX6_mark_134 : decode cX6_mark 134 = .ok (.putfield 162, 3) := by decide +kernel
theorem dX6_mark_137 : decode cX6_mark 137 = .ok (.iload 4, 2) := by decide +kernel
theorem dX6_mark_139 : decode cX6_mark 139 = .ok (.ireturn, 1) := by decide +kernel
theorem dX6_mark_140 : decode cX6_mark 140 = .ok (.aload_n 0, 1) := by decide +kernel
theorem dX6_mark_141 : decode cX6_mark 141 = .ok (.dup, 1) := by decide +kernel
theorem dX6_mark_142 : decode cX6_mark 142 = .ok (.getfield 162, 3) := by decide +kernel
theorem dX6_mark_145 : decode cX6_mark 145 = .ok (.ldc2_w 170, 3) := by decide +kernel
theorem dX6_mark_148 : decode cX6_mark 148 = .ok (.ladd, 1) := by decide +kernel
theorem dX6_mark_149 : decode cX6_mark 149 = .ok (.putfield 162, 3) := by decide +kernel
theorem dX6_mark_152 : decode cX6_mark 152 = .ok (.iconst 2, 1) := by decide +kernel
theorem dX6_mark_153 : decode cX6_mark 153 = .ok (.iload_n 3, 1) := by decide +kernel
theorem dX6_mark_154 : decode cX6_mark 154 = .ok (.imul, 1) := by decide +kernel
theorem dX6_mark_155 : decode cX6_mark 155 = .ok (.ireturn, 1) := by decide +kernel
theorem dX6_mark_156 : decode cX6_mark 156 = .ok (.aload_n 0, 1) := by decide +kernel
theorem dX6_mark_157 : decode cX6_mark 157 = .ok (.dup, 1) := by decide +kernel
theorem dX6_mark_158 : decode cX6_mark 158 = .ok (.getfield 162, 3) := by decide +kernel
theorem dX6_mark_161 : decode cX6_mark 161 = .ok (.ldc2_w 172, 3) := by decide +kernel
theorem dX6_mark_164 : decode cX6_mark 164 = .ok (.ladd, 1) := by decide +kernel
theorem dX6_mark_165 : decode cX6_mark 165 = .ok (.putfield 162, 3) := by decide +kernel
theorem dX6_mark_168 : decode cX6_mark 168 = .ok (.iload 4, 2) := by decide +kernel
theorem dX6_mark_170 : decode cX6_mark 170 = .ok (.aload_n 0, 1) := by decide +kernel
theorem dX6_mark_171 : decode cX6_mark 171 = .ok (.getfield 38, 3) := by decide +kernel
theorem dX6_mark_174 : decode cX6_mark 174 = .ok (.bipush 22, 2) := by decide +kernel
theorem dX6_mark_176 : decode cX6_mark 176 = .ok (.iload_n 2, 1) := by decide +kernel
theorem dX6_mark_177 : decode cX6_mark 177 = .ok (.iadd, 1) := by decide +kernel
theorem dX6_mark_178 : decode cX6_mark 178 = .ok (.iaload, 1) := by decide +kernel
theorem dX6_mark_179 : decode cX6_mark 179 = .ok (.iadd, 1) := by decide +kernel
theorem dX6_mark_180 : decode cX6_mark 180 = .ok (.ireturn, 1) := by decide +kernel
theorem dX6_mark_181 : decode cX6_mark 181 = .ok (.aload_n 0, 1) := by decide +kernel
theorem dX6_mark_182 : decode cX6_mark 182 = .ok (.dup, 1) := by decide +kernel
theorem dX6_mark_183 : decode cX6_mark 183 = .ok (.getfield 162, 3) := by decide +kernel
theorem dX6_mark_186 : decode cX6_mark 186 = .ok (.ldc2_w 174, 3) := by decide +kernel
theorem dX6_mark_189 : decode cX6_mark 189 = .ok (.ladd, 1) := by decide +kernel
theorem dX6_mark_190 : decode cX6_mark 190 = .ok (.putfield 162, 3) := by decide +kernel
theorem dX6_mark_193 : decode cX6_mark 193 = .ok (.aload_n 0, 1) := by decide +kernel
theorem dX6_mark_194 : decode cX6_mark 194 = .ok (.getfield 38, 3) := by decide +kernel
theorem dX6_mark_197 : decode cX6_mark 197 = .ok (.iconst 4, 1) := by decide +kernel
theorem dX6_mark_198 : decode cX6_mark 198 = .ok (.iload_n 2, 1) := by decide +kernel
theorem dX6_mark_199 : decode cX6_mark 199 = .ok (.iadd, 1) := by decide +kernel
theorem dX6_mark_200 : decode cX6_mark 200 = .ok (.iaload, 1) := by decide +kernel
theorem dX6_mark_201 : decode cX6_mark 201 = .ok (.aload_n 0, 1) := by decide +kernel
theorem dX6_mark_202 : decode cX6_mark 202 = .ok (.getfield 38, 3) := by decide +kernel
theorem dX6_mark_205 : decode cX6_mark 205 = .ok (.bipush 16, 2) := by decide +kernel
theorem dX6_mark_207 : decode cX6_mark 207 = .ok (.iload_n 2, 1) := by decide +kernel
theorem dX6_mark_208 : decode cX6_mark 208 = .ok (.iadd, 1) := by decide +kernel
theorem dX6_mark_209 : decode cX6_mark 209 = .ok (.iaload, 1) := by decide +kernel
theorem dX6_mark_210 : decode cX6_mark 210 = .ok (.iadd, 1) := by decide +kernel
theorem dX6_mark_211 : decode cX6_mark 211 = .ok (.ireturn, 1) := by decide +kernel
theorem dX6_keep_0 : decode cX6_keep 0 = .ok (.iload_n 1, 1) := by decide +kernel
theorem dX6_keep_1 : decode cX6_keep 1 = .ok (.iconst 0, 1) := by decide +kernel
theorem dX6_keep_2 : decode cX6_keep 2 = .ok (.iconst 1, 1) := by decide +kernel
theorem dX6_keep_3 : decode cX6_keep 3 = .ok (.invokestatic 54, 3) := by decide +kernel
theorem dX6_keep_6 : decode cX6_keep 6 = .ok (.ifCond .ne 5, 3) := by decide +kernel
theorem dX6_keep_9 : decode cX6_keep 9 = .ok (.iconst (-1), 1) := by decide +kernel
theorem dX6_keep_10 : decode cX6_keep 10 = .ok (.ireturn, 1) := by decide +kernel
theorem dX6_keep_11 : decode cX6_keep 11 = .ok (.iconst 0, 1) := by decide +kernel
theorem dX6_keep_12 : decode cX6_keep 12 = .ok (.istore_n 2, 1) := by decide +kernel
theorem dX6_keep_13 : decode cX6_keep 13 = .ok (.iload_n 2, 1) := by decide +kernel
theorem dX6_keep_14 : decode cX6_keep 14 = .ok (.sipush 309, 3) := by decide +kernel
theorem dX6_keep_17 : decode cX6_keep 17 = .ok (.if_icmp .ge 29, 3) := by decide +kernel
theorem dX6_keep_20 : decode cX6_keep 20 = .ok (.aload_n 0, 1) := by decide +kernel
theorem dX6_keep_21 : decode cX6_keep 21 = .ok (.getfield 38, 3) := by decide +kernel
theorem dX6_keep_24 : decode cX6_keep 24 = .ok (.sipush 309, 3) := by decide +kernel
theorem dX6_keep_27 : decode cX6_keep 27 = .ok (.iconst 1, 1) := by decide +kernel
theorem dX6_keep_28 : decode cX6_keep 28 = .ok (.iload_n 1, 1) := by decide +kernel
theorem dX6_keep_29 : decode cX6_keep 29 = .ok (.iadd, 1) := by decide +kernel
theorem dX6_keep_30 : decode cX6_keep 30 = .ok (.imul, 1) := by decide +kernel
theorem dX6_keep_31 : decode cX6_keep 31 = .ok (.iload_n 2, 1) := by decide +kernel
theorem dX6_keep_32 : decode cX6_keep 32 = .ok (.iadd, 1) := by decide +kernel
theorem dX6_keep_33 : decode cX6_keep 33 = .ok (.aload_n 0, 1) := by decide +kernel
theorem dX6_keep_34 : decode cX6_keep 34 = .ok (.getfield 38, 3) := by decide +kernel
theorem dX6_keep_37 : decode cX6_keep 37 = .ok (.iload_n 2, 1) := by decide +kernel
theorem dX6_keep_38 : decode cX6_keep 38 = .ok (.iaload, 1) := by decide +kernel
theorem dX6_keep_39 : decode cX6_keep 39 = .ok (.iastore, 1) := by decide +kernel
theorem dX6_keep_40 : decode cX6_keep 40 = .ok (.iinc 2 1, 3) := by decide +kernel
theorem dX6_keep_43 : decode cX6_keep 43 = .ok (.goto (-30), 3) := by decide +kernel
theorem dX6_keep_46 : decode cX6_keep 46 = .ok (.aload_n 0, 1) := by decide +kernel
theorem dX6_keep_47 : decode cX6_keep 47 = .ok (.getfield 41, 3) := by decide +kernel
theorem dX6_keep_50 : decode cX6_keep 50 = .ok (.iload_n 1, 1) := by decide +kernel
theorem dX6_keep_51 : decode cX6_keep 51 = .ok (.iconst 1, 1) := by decide +kernel
theorem dX6_keep_52 : decode cX6_keep 52 = .ok (.bastore, 1) := by decide +kernel
theorem dX6_keep_53 : decode cX6_keep 53 = .ok (.aload_n 0, 1) := by decide +kernel
theorem dX6_keep_54 : decode cX6_keep 54 = .ok (.getfield 38, 3) := by decide +kernel
theorem dX6_keep_57 : decode cX6_keep 57 = .ok (.iconst 1, 1) := by decide +kernel
theorem dX6_keep_58 : decode cX6_keep 58 = .ok (.iaload, 1) := by decide +kernel
theorem dX6_keep_59 : decode cX6_keep 59 = .ok (.ireturn, 1) := by decide +kernel
theorem dX6_back_0 : decode cX6_back 0 = .ok (.iload_n 1, 1) := by decide +kernel
theorem dX6_back_1 : decode cX6_back 1 = .ok (.iconst 0, 1) := by decide +kernel
theorem dX6_back_2 : decode cX6_back 2 = .ok (.iconst 1, 1) := by decide +kernel
theorem dX6_back_3 : decode cX6_back 3 = .ok (.invokestatic 54, 3) := by decide +kernel
theorem dX6_back_6 : decode cX6_back 6 = .ok (.ifCond .ne 5, 3) := by decide +kernel
theorem dX6_back_9 : decode cX6_back 9 = .ok (.iconst (-1), 1) := by decide +kernel
theorem dX6_back_10 : decode cX6_back 10 = .ok (.ireturn, 1) := by decide +kernel
theorem dX6_back_11 : decode cX6_back 11 = .ok (.aload_n 0, 1) := by decide +kernel
theorem dX6_back_12 : decode cX6_back 12 = .ok (.getfield 41, 3) := by decide +kernel
theorem dX6_back_15 : decode cX6_back 15 = .ok (.iload_n 1, 1) := by decide +kernel
theorem dX6_back_16 : decode cX6_back 16 = .ok (.baload, 1) := by decide +kernel
theorem dX6_back_17 : decode cX6_back 17 = .ok (.ifCond .ne 6, 3) := by decide +kernel
theorem dX6_back_20 : decode cX6_back 20 = .ok (.bipush (-2), 2) := by decide +kernel
theorem dX6_back_22 : decode cX6_back 22 = .ok (.ireturn, 1) := by decide +kernel
theorem dX6_back_23 : decode cX6_back 23 = .ok (.iconst 0, 1) := by decide +kernel
theorem dX6_back_24 : decode cX6_back 24 = .ok (.istore_n 2, 1) := by decide +kernel
theorem dX6_back_25 : decode cX6_back 25 = .ok (.iload_n 2, 1) := by decide +kernel
theorem dX6_back_26 : decode cX6_back 26 = .ok (.sipush 309, 3) := by decide +kernel
theorem dX6_back_29 : decode cX6_back 29 = .ok (.if_icmp .ge 29, 3) := by decide +kernel
theorem dX6_back_32 : decode cX6_back 32 = .ok (.aload_n 0, 1) := by decide +kernel
theorem dX6_back_33 : decode cX6_back 33 = .ok (.getfield 38, 3) := by decide +kernel
theorem dX6_back_36 : decode cX6_back 36 = .ok (.iload_n 2, 1) := by decide +kernel
theorem dX6_back_37 : decode cX6_back 37 = .ok (.aload_n 0, 1) := by decide +kernel
theorem dX6_back_38 : decode cX6_back 38 = .ok (.getfield 38, 3) := by decide +kernel
theorem dX6_back_41 : decode cX6_back 41 = .ok (.sipush 309, 3) := by decide +kernel
theorem dX6_back_44 : decode cX6_back 44 = .ok (.iconst 1, 1) := by decide +kernel
theorem dX6_back_45 : decode cX6_back 45 = .ok (.iload_n 1, 1) := by decide +kernel
theorem dX6_back_46 : decode cX6_back 46 = .ok (.iadd, 1) := by decide +kernel
theorem dX6_back_47 : decode cX6_back 47 = .ok (.imul, 1) := by decide +kernel
theorem dX6_back_48 : decode cX6_back 48 = .ok (.iload_n 2, 1) := by decide +kernel
theorem dX6_back_49 : decode cX6_back 49 = .ok (.iadd, 1) := by decide +kernel
theorem dX6_back_50 : decode cX6_back 50 = .ok (.iaload, 1) := by decide +kernel
theorem dX6_back_51 : decode cX6_back 51 = .ok (.iastore, 1) := by decide +kernel
theorem dX6_back_52 : decode cX6_back 52 = .ok (.iinc 2 1, 3) := by decide +kernel
theorem dX6_back_55 : decode cX6_back 55 = .ok (.goto (-30), 3) := by decide +kernel
theorem dX6_back_58 : decode cX6_back 58 = .ok (.aload_n 0, 1) := by decide +kernel
theorem dX6_back_59 : decode cX6_back 59 = .ok (.getfield 38, 3) := by decide +kernel
theorem dX6_back_62 : decode cX6_back 62 = .ok (.iconst 1, 1) := by decide +kernel
theorem dX6_back_63 : decode cX6_back 63 = .ok (.iaload, 1) := by decide +kernel
theorem dX6_back_64 : decode cX6_back 64 = .ok (.ireturn, 1) := by decide +kernel
theorem dX6_count_0 : decode cX6_count 0 = .ok (.iload_n 1, 1) := by decide +kernel
theorem dX6_count_1 : decode cX6_count 1 = .ok (.tableswitch 75 0 5 #[39, 46, 53, 53, 62, 70], 39) := by decide +kernel
theorem dX6_count_40 : decode cX6_count 40 = .ok (.aload_n 0, 1) := by decide +kernel
theorem dX6_count_41 : decode cX6_count 41 = .ok (.getfield 13, 3) := by decide +kernel
theorem dX6_count_44 : decode cX6_count 44 = .ok (.iconst 0, 1) := by decide +kernel
theorem dX6_count_45 : decode cX6_count 45 = .ok (.iaload, 1) := by decide +kernel
theorem dX6_count_46 : decode cX6_count 46 = .ok (.ireturn, 1) := by decide +kernel
theorem dX6_count_47 : decode cX6_count 47 = .ok (.aload_n 0, 1) := by decide +kernel
theorem dX6_count_48 : decode cX6_count 48 = .ok (.getfield 26, 3) := by decide +kernel
theorem dX6_count_51 : decode cX6_count 51 = .ok (.iconst 0, 1) := by decide +kernel
theorem dX6_count_52 : decode cX6_count 52 = .ok (.iaload, 1) := by decide +kernel
theorem dX6_count_53 : decode cX6_count 53 = .ok (.ireturn, 1) := by decide +kernel
theorem dX6_count_54 : decode cX6_count 54 = .ok (.aload_n 0, 1) := by decide +kernel
theorem dX6_count_55 : decode cX6_count 55 = .ok (.getfield 35, 3) := by decide +kernel
theorem dX6_count_58 : decode cX6_count 58 = .ok (.iload_n 1, 1) := by decide +kernel
theorem dX6_count_59 : decode cX6_count 59 = .ok (.iconst 2, 1) := by decide +kernel
theorem dX6_count_60 : decode cX6_count 60 = .ok (.isub, 1) := by decide +kernel
theorem dX6_count_61 : decode cX6_count 61 = .ok (.iaload, 1) := by decide +kernel
theorem dX6_count_62 : decode cX6_count 62 = .ok (.ireturn, 1) := by decide +kernel
theorem dX6_count_63 : decode cX6_count 63 = .ok (.aload_n 0, 1) := by decide +kernel
theorem dX6_count_64 : decode cX6_count 64 = .ok (.getfield 38, 3) := by decide +kernel
theorem dX6_count_67 : decode cX6_count 67 = .ok (.bipush 28, 2) := by decide +kernel
theorem dX6_count_69 : decode cX6_count 69 = .ok (.iaload, 1) := by decide +kernel
theorem dX6_count_70 : decode cX6_count 70 = .ok (.ireturn, 1) := by decide +kernel
theorem dX6_count_71 : decode cX6_count 71 = .ok (.aload_n 0, 1) := by decide +kernel
theorem dX6_count_72 : decode cX6_count 72 = .ok (.getfield 58, 3) := by decide +kernel
theorem dX6_count_75 : decode cX6_count 75 = .ok (.ireturn, 1) := by decide +kernel
theorem dX6_count_76 : decode cX6_count 76 = .ok (.iconst (-1), 1) := by decide +kernel
theorem dX6_count_77 : decode cX6_count 77 = .ok (.ireturn, 1) := by decide +kernel
theorem dX6_trace_0 : decode cX6_trace 0 = .ok (.aload_n 0, 1) := by decide +kernel
theorem dX6_trace_1 : decode cX6_trace 1 = .ok (.getfield 162, 3) := by decide +kernel
theorem dX6_trace_4 : decode cX6_trace 4 = .ok (.lreturn, 1) := by decide +kernel
