theorem dX6_init_0 : decode cX6_init 0 = .ok (.aload_n 0, 1) := by decide +kernel
theorem dX6_init_1 : decode cX6_init 1 = .ok (.invokespecial 1, 3) := by decide +kernel
theorem dX6_init_4 : decode cX6_init 4 = .ok (.aload_n 0, 1) := by decide +kernel
theorem dX6_init_5 : decode cX6_init 5 = .ok (.sipush 180, 3) := by decide +kernel
theorem dX6_init_8 : decode cX6_init 8 = .ok (.newarray .byte, 2) := by decide +kernel
theorem dX6_init_10 : decode cX6_init 10 = .ok (.putfield 7, 3) := by decide +kernel
theorem dX6_init_13 : decode cX6_init 13 = .ok (.aload_n 0, 1) := by decide +kernel
theorem dX6_init_14 : decode cX6_init 14 = .ok (.iconst 2, 1) := by decide +kernel
theorem dX6_init_15 : decode cX6_init 15 = .ok (.newarray .int, 2) := by decide +kernel
theorem dX6_init_17 : decode cX6_init 17 = .ok (.putfield 13, 3) := by decide +kernel
theorem dX6_init_20 : decode cX6_init 20 = .ok (.aload_n 0, 1) := by decide +kernel
theorem dX6_init_21 : decode cX6_init 21 = .ok (.bipush 6, 2) := by decide +kernel
theorem dX6_init_23 : decode cX6_init 23 = .ok (.newarray .int, 2) := by decide +kernel
theorem dX6_init_25 : decode cX6_init 25 = .ok (.putfield 17, 3) := by decide +kernel
theorem dX6_init_28 : decode cX6_init 28 = .ok (.aload_n 0, 1) := by decide +kernel
theorem dX6_init_29 : decode cX6_init 29 = .ok (.bipush 12, 2) := by decide +kernel
theorem dX6_init_31 : decode cX6_init 31 = .ok (.newarray .int, 2) := by decide +kernel
theorem dX6_init_33 : decode cX6_init 33 = .ok (.putfield 20, 3) := by decide +kernel
theorem dX6_init_36 : decode cX6_init 36 = .ok (.aload_n 0, 1) := by decide +kernel
theorem dX6_init_37 : decode cX6_init 37 = .ok (.bipush 12, 2) := by decide +kernel
theorem dX6_init_39 : decode cX6_init 39 = .ok (.newarray .int, 2) := by decide +kernel
theorem dX6_init_41 : decode cX6_init 41 = .ok (.putfield 23, 3) := by decide +kernel
theorem dX6_init_44 : decode cX6_init 44 = .ok (.aload_n 0, 1) := by decide +kernel
theorem dX6_init_45 : decode cX6_init 45 = .ok (.iconst 2, 1) := by decide +kernel
theorem dX6_init_46 : decode cX6_init 46 = .ok (.newarray .int, 2) := by decide +kernel
theorem dX6_init_48 : decode cX6_init 48 = .ok (.putfield 26, 3) := by decide +kernel
theorem dX6_init_51 : decode cX6_init 51 = .ok (.aload_n 0, 1) := by decide +kernel
theorem dX6_init_52 : decode cX6_init 52 = .ok (.bipush 72, 2) := by decide +kernel
theorem dX6_init_54 : decode cX6_init 54 = .ok (.newarray .int, 2) := by decide +kernel
theorem dX6_init_56 : decode cX6_init 56 = .ok (.putfield 29, 3) := by decide +kernel
theorem dX6_init_59 : decode cX6_init 59 = .ok (.aload_n 0, 1) := by decide +kernel
theorem dX6_init_60 : decode cX6_init 60 = .ok (.bipush 72, 2) := by decide +kernel
theorem dX6_init_62 : decode cX6_init 62 = .ok (.newarray .int, 2) := by decide +kernel
theorem dX6_init_64 : decode cX6_init 64 = .ok (.putfield 32, 3) := by decide +kernel
theorem dX6_init_67 : decode cX6_init 67 = .ok (.aload_n 0, 1) := by decide +kernel
theorem dX6_init_68 : decode cX6_init 68 = .ok (.bipush 6, 2) := by decide +kernel
theorem dX6_init_70 : decode cX6_init 70 = .ok (.newarray .int, 2) := by decide +kernel
theorem dX6_init_72 : decode cX6_init 72 = .ok (.putfield 35, 3) := by decide +kernel
theorem dX6_init_75 : decode cX6_init 75 = .ok (.aload_n 0, 1) := by decide +kernel
theorem dX6_init_76 : decode cX6_init 76 = .ok (.sipush 927, 3) := by decide +kernel
theorem dX6_init_79 : decode cX6_init 79 = .ok (.newarray .int, 2) := by decide +kernel
theorem dX6_init_81 : decode cX6_init 81 = .ok (.putfield 38, 3) := by decide +kernel
theorem dX6_init_84 : decode cX6_init 84 = .ok (.aload_n 0, 1) := by decide +kernel
theorem dX6_init_85 : decode cX6_init 85 = .ok (.iconst 2, 1) := by decide +kernel
theorem dX6_init_86 : decode cX6_init 86 = .ok (.newarray .boolean, 2) := by decide +kernel
theorem dX6_init_88 : decode cX6_init 88 = .ok (.putfield 41, 3) := by decide +kernel
theorem dX6_init_91 : decode cX6_init 91 = .ok (.aload_n 0, 1) := by decide +kernel
theorem dX6_init_92 : decode cX6_init 92 = .ok (.bipush 6, 2) := by decide +kernel
theorem dX6_init_94 : decode cX6_init 94 = .ok (.newarray .int, 2) := by decide +kernel
theorem dX6_init_96 : decode cX6_init 96 = .ok (.putfield 45, 3) := by decide +kernel
theorem dX6_init_99 : decode cX6_init 99 = .ok (.aload_n 0, 1) := by decide +kernel
theorem dX6_init_100 : decode cX6_init 100 = .ok (.invokevirtual 48, 3) := by decide +kernel
theorem dX6_init_103 : decode cX6_init 103 = .ok (.aload_n 0, 1) := by decide +kernel
theorem dX6_init_104 : decode cX6_init 104 = .ok (.invokevirtual 51, 3) := by decide +kernel
theorem dX6_init_107 : decode cX6_init 107 = .ok (.return_, 1) := by decide +kernel
theorem dX6_in_0 : decode cX6_in 0 = .ok (.iload_n 0, 1) := by decide +kernel
theorem dX6_in_1 : decode cX6_in 1 = .ok (.iload_n 1, 1) := by decide +kernel
theorem dX6_in_2 : decode cX6_in 2 = .ok (.if_icmp .lt 12, 3) := by decide +kernel
theorem dX6_in_5 : decode cX6_in 5 = .ok (.iload_n 0, 1) := by decide +kernel
theorem dX6_in_6 : decode cX6_in 6 = .ok (.iload_n 2, 1) := by decide +kernel
theorem dX6_in_7 : decode cX6_in 7 = .ok (.if_icmp .gt 7, 3) := by decide +kernel
theorem dX6_in_10 : decode cX6_in 10 = .ok (.iconst 1, 1) := by decide +kernel
theorem dX6_in_11 : decode cX6_in 11 = .ok (.goto 4, 3) := by decide +kernel
theorem dX6_in_14 : decode cX6_in 14 = .ok (.iconst 0, 1) := by decide +kernel
theorem dX6_in_15 : decode cX6_in 15 = .ok (.ireturn, 1) := by decide +kernel
theorem dX6_type_0 : decode cX6_type 0 = .ok (.iload_n 1, 1) := by decide +kernel
theorem dX6_type_1 : decode cX6_type 1 = .ok (.iconst 0, 1) := by decide +kernel
theorem dX6_type_2 : decode cX6_type 2 = .ok (.sipush 255, 3) := by decide +kernel
theorem dX6_type_5 : decode cX6_type 5 = .ok (.invokestatic 54, 3) := by decide +kernel
theorem dX6_type_8 : decode cX6_type 8 = .ok (.ifCond .ne 5, 3) := by decide +kernel
theorem dX6_type_11 : decode cX6_type 11 = .ok (.iconst (-1), 1) := by decide +kernel
theorem dX6_type_12 : decode cX6_type 12 = .ok (.ireturn, 1) := by decide +kernel
theorem dX6_type_13 : decode cX6_type 13 = .ok (.aload_n 0, 1) := by decide +kernel
theorem dX6_type_14 : decode cX6_type 14 = .ok (.getfield 58, 3) := by decide +kernel
theorem dX6_type_17 : decode cX6_type 17 = .ok (.sipush 180, 3) := by decide +kernel
theorem dX6_type_20 : decode cX6_type 20 = .ok (.if_icmp .ne 6, 3) := by decide +kernel
theorem dX6_type_23 : decode cX6_type 23 = .ok (.bipush (-3), 2) := by decide +kernel
theorem dX6_type_25 : decode cX6_type 25 = .ok (.ireturn, 1) := by decide +kernel
theorem dX6_type_26 : decode cX6_type 26 = .ok (.aload_n 0, 1) := by decide +kernel
theorem dX6_type_27 : decode cX6_type 27 = .ok (.getfield 7, 3) := by decide +kernel
theorem dX6_type_30 : decode cX6_type 30 = .ok (.aload_n 0, 1) := by decide +kernel
theorem dX6_type_31 : decode cX6_type 31 = .ok (.getfield 58, 3) := by decide +kernel
theorem dX6_type_34 : decode cX6_type 34 = .ok (.iload_n 1, 1) := by decide +kernel
theorem dX6_type_35 : decode cX6_type 35 = .ok (.i2b, 1) := by decide +kernel
theorem dX6_type_36 : decode cX6_type 36 = .ok (.bastore, 1) := by decide +kernel
theorem dX6_type_37 : decode cX6_type 37 = .ok (.aload_n 0, 1) := by decide +kernel
theorem dX6_type_38 : decode cX6_type 38 = .ok (.dup, 1) := by decide +kernel
theorem dX6_type_39 : decode cX6_type 39 = .ok (.getfield 58, 3) := by decide +kernel
theorem dX6_type_42 : decode cX6_type 42 = .ok (.iconst 1, 1) := by decide +kernel
theorem dX6_type_43 : decode cX6_type 43 = .ok (.iadd, 1) := by decide +kernel
theorem dX6_type_44 : decode cX6_type 44 = .ok (.putfield 58, 3) := by decide +kernel
theorem dX6_type_47 : decode cX6_type 47 = .ok (.aload_n 0, 1) := by decide +kernel
theorem dX6_type_48 : decode cX6_type 48 = .ok (.getfield 58, 3) := by decide +kernel
theorem dX6_type_51 : decode cX6_type 51 = .ok (.ireturn, 1) := by decide +kernel
theorem dX6_clear_0 : decode cX6_clear 0 = .ok (.aload_n 0, 1) := by decide +kernel
theorem dX6_clear_1 : decode cX6_clear 1 = .ok (.getfield 58, 3) := by decide +kernel
theorem dX6_clear_4 : decode cX6_clear 4 = .ok (.istore_n 1, 1) := by decide +kernel
theorem dX6_clear_5 : decode cX6_clear 5 = .ok (.aload_n 0, 1) := by decide +kernel
theorem dX6_clear_6 : decode cX6_clear 6 = .ok (.iconst 0, 1) := by decide +kernel
theorem dX6_clear_7 : decode cX6_clear 7 = .ok (.putfield 58, 3) := by decide +kernel
theorem dX6_clear_10 : decode cX6_clear 10 = .ok (.iload_n 1, 1) := by decide +kernel
theorem dX6_clear_11 : decode cX6_clear 11 = .ok (.ireturn, 1) := by decide +kernel
theorem dX6_here_0 : decode cX6_here 0 = .ok (.aload_n 0, 1) := by decide +kernel
theorem dX6_here_1 : decode cX6_here 1 = .ok (.getfield 62, 3) := by decide +kernel
theorem dX6_here_4 : decode cX6_here 4 = .ok (.aload_n 0, 1) := by decide +kernel
theorem dX6_here_5 : decode cX6_here 5 = .ok (.getfield 58, 3) := by decide +kernel
theorem dX6_here_8 : decode cX6_here 8 = .ok (.if_icmp .ge 19, 3) := by decide +kernel
theorem dX6_here_11 : decode cX6_here 11 = .ok (.aload_n 0, 1) := by decide +kernel
theorem dX6_here_12 : decode cX6_here 12 = .ok (.getfield 7, 3) := by decide +kernel
theorem dX6_here_15 : decode cX6_here 15 = .ok (.aload_n 0, 1) := by decide +kernel
theorem dX6_here_16 : decode cX6_here 16 = .ok (.getfield 62, 3) := by decide +kernel
theorem dX6_here_19 : decode cX6_here 19 = .ok (.baload, 1) := by decide +kernel
theorem dX6_here_20 : decode cX6_here 20 = .ok (.sipush 255, 3) := by decide +kernel
theorem dX6_here_23 : decode cX6_here 23 = .ok (.iand, 1) := by decide +kernel
theorem dX6_here_24 : decode cX6_here 24 = .ok (.goto 4, 3) := by decide +kernel
theorem dX6_here_27 : decode cX6_here 27 = .ok (.iconst (-1), 1) := by decide +kernel
theorem dX6_here_28 : decode cX6_here 28 = .ok (.ireturn, 1) := by decide +kernel
theorem dX6_step_0 : decode cX6_step 0 = .ok (.aload_n 0, 1) := by decide +kernel
theorem dX6_step_1 : decode cX6_step 1 = .ok (.invokevirtual 65, 3) := by decide +kernel
theorem dX6_step_4 : decode cX6_step 4 = .ok (.bipush 32, 2) := by decide +kernel
theorem dX6_step_6 : decode cX6_step 6 = .ok (.if_icmp .ne 16, 3) := by decide +kernel
theorem dX6_step_9 : decode cX6_step 9 = .ok (.aload_n 0, 1) := by decide +kernel
theorem dX6_step_10 : decode cX6_step 10 = .ok (.dup, 1) := by decide +kernel
theorem dX6_step_11 : decode cX6_step 11 = .ok (.getfield 62, 3) := by decide +kernel
theorem dX6_step_14 : decode cX6_step 14 = .ok (.iconst 1, 1) := by decide +kernel
theorem dX6_step_15 : decode cX6_step 15 = .ok (.iadd, 1) := by decide +kernel
theorem dX6_step_16 : decode cX6_step 16 = .ok (.putfield 62, 3) := by decide +kernel
theorem dX6_step_19 : decode cX6_step 19 = .ok (.goto (-19), 3) := by decide +kernel
theorem dX6_step_22 : decode cX6_step 22 = .ok (.aload_n 0, 1) := by decide +kernel
theorem dX6_step_23 : decode cX6_step 23 = .ok (.aload_n 0, 1) := by decide +kernel
theorem dX6_step_24 : decode cX6_step 24 = .ok (.getfield 62, 3) := by decide +kernel
theorem dX6_step_27 : decode cX6_step 27 = .ok (.putfield 69, 3) := by decide +kernel
theorem dX6_step_30 : decode cX6_step 30 = .ok (.aload_n 0, 1) := by decide +kernel
theorem dX6_step_31 : decode cX6_step 31 = .ok (.iconst 0, 1) := by decide +kernel
theorem dX6_step_32 : decode cX6_step 32 = .ok (.putfield 72, 3) := by decide +kernel
theorem dX6_step_35 : decode cX6_step 35 = .ok (.aload_n 0, 1) := by decide +kernel
theorem dX6_step_36 : decode cX6_step 36 = .ok (.invokevirtual 65, 3) := by decide +kernel
theorem dX6_step_39 : decode cX6_step 39 = .ok (.istore_n 1, 1) := by decide +kernel
theorem dX6_step_40 : decode cX6_step 40 = .ok (.iload_n 1, 1) := by decide +kernel
theorem dX6_step_41 : decode cX6_step 41 = .ok (.ifCond .ge 11, 3) := by decide +kernel
theorem dX6_step_44 : decode cX6_step 44 = .ok (.aload_n 0, 1) := by decide +kernel
theorem dX6_step_45 : decode cX6_step 45 = .ok (.iconst 3, 1) := by decide +kernel
theorem dX6_step_46 : decode cX6_step 46 = .ok (.putfield 75, 3) := by decide +kernel
theorem dX6_step_49 : decode cX6_step 49 = .ok (.goto 204, 3) := by decide +kernel
theorem dX6_step_52 : decode cX6_step 52 = .ok (.iload_n 1, 1) := by decide +kernel
theorem dX6_step_53 : decode cX6_step 53 = .ok (.bipush 97, 2) := by decide +kernel
theorem dX6_step_55 : decode cX6_step 55 = .ok (.bipush 122, 2) := by decide +kernel
theorem dX6_step_57 : decode cX6_step 57 = .ok (.invokestatic 54, 3) := by decide +kernel
theorem dX6_step_60 : decode cX6_step 60 = .ok (.ifCond .eq 55, 3) := by decide +kernel
theorem dX6_step_63 : decode cX6_step 63 = .ok (.aload_n 0, 1) := by decide +kernel
theorem dX6_step_64 : decode cX6_step 64 = .ok (.invokevirtual 65, 3) := by decide +kernel
theorem dX6_step_67 : decode cX6_step 67 = .ok (.bipush 97, 2) := by decide +kernel
theorem dX6_step_69 : decode cX6_step 69 = .ok (.bipush 122, 2) := by decide +kernel
theorem dX6_step_71 : decode cX6_step 71 = .ok (.invokestatic 54, 3) := by decide +kernel
theorem dX6_step_74 : decode cX6_step 74 = .ok (.ifCond .eq 16, 3) := by decide +kernel
theorem dX6_step_77 : decode cX6_step 77 = .ok (.aload_n 0, 1) := by decide +kernel
theorem dX6_step_78 : decode cX6_step 78 = .ok (.dup, 1) := by decide +kernel
theorem dX6_step_79 : decode cX6_step 79 = .ok (.getfield 62, 3) := by decide +kernel
theorem dX6_step_82 : decode cX6_step 82 = .ok (.iconst 1, 1) := by decide +kernel
theorem dX6_step_83 : decode cX6_step 83 = .ok (.iadd, 1) := by decide +kernel
theorem dX6_step_84 : decode cX6_step 84 = .ok (.putfield 62, 3) := by decide +kernel
theorem dX6_step_87 : decode cX6_step 87 = .ok (.goto (-24), 3) := by decide +kernel
theorem dX6_step_90 : decode cX6_step 90 = .ok (.aload_n 0, 1) := by decide +kernel
theorem dX6_step_91 : decode cX6_step 91 = .ok (.aload_n 0, 1) := by decide +kernel
theorem dX6_step_92 : decode cX6_step 92 = .ok (.getfield 62, 3) := by decide +kernel
theorem dX6_step_95 : decode cX6_step 95 = .ok (.aload_n 0, 1) := by decide +kernel
theorem dX6_step_96 : decode cX6_step 96 = .ok (.getfield 69, 3) := by decide +kernel
theorem dX6_step_99 : decode cX6_step 99 = .ok (.isub, 1) := by decide +kernel
theorem dX6_step_100 : decode cX6_step 100 = .ok (.iconst 1, 1) := by decide +kernel
theorem dX6_step_101 : decode cX6_step 101 = .ok (.if_icmp .ne 7, 3) := by decide +kernel
theorem dX6_step_104 : decode cX6_step 104 = .ok (.iload_n 1, 1) := by decide +kernel
theorem dX6_step_105 : decode cX6_step 105 = .ok (.goto 4, 3) := by decide +kernel
theorem dX6_step_108 : decode cX6_step 108 = .ok (.iconst 4, 1) := by decide +kernel
theorem dX6_step_109 : decode cX6_step 109 = .ok (.putfield 75, 3) := by decide +kernel
theorem dX6_step_112 : decode cX6_step 112 = .ok (.goto 141, 3) := by decide +kernel
theorem dX6_step_115 : decode cX6_step 115 = .ok (.iload_n 1, 1) := by decide +kernel
theorem dX6_step_116 : decode cX6_step 116 = .ok (.bipush 48, 2) := by decide +kernel
theorem dX6_step_118 : decode cX6_step 118 = .ok (.bipush 57, 2) := by decide +kernel
theorem dX6_step_120 : decode cX6_step 120 = .ok (.invokestatic 54, 3) := by decide +kernel
theorem dX6_step_123 : decode cX6_step 123 = .ok (.ifCond .eq 105, 3) := by decide +kernel
theorem dX6_step_126 : decode cX6_step 126 = .ok (.aload_n 0, 1) := by decide +kernel
theorem dX6_step_127 : decode cX6_step 127 = .ok (.invokevirtual 65, 3) := by decide +kernel
theorem dX6_step_130 : decode cX6_step 130 = .ok (.bipush 48, 2) := by decide +kernel
theorem dX6_step_132 : decode cX6_step 132 = .ok (.bipush 57, 2) := by decide +kernel
theorem dX6_step_134 : decode cX6_step 134 = .ok (.invokestatic 54, 3) := by decide +kernel
theorem dX6_step_137 : decode cX6_step 137 = .ok (.ifCond .eq 51, 3) := by decide +kernel
theorem dX6_step_140 : decode cX6_step 140 = .ok (.aload_n 0, 1) := by decide +kernel
theorem dX6_step_141 : decode cX6_step 141 = .ok (.aload_n 0, 1) := by decide +kernel
theorem dX6_step_142 : decode cX6_step 142 = .ok (.getfield 72, 3) := by decide +kernel
theorem dX6_step_145 : decode cX6_step 145 = .ok (.bipush 99, 2) := by decide +kernel
theorem dX6_step_147 : decode cX6_step 147 = .ok (.if_icmp .le 10, 3) := by decide +kernel
theorem dX6_step_150 : decode cX6_step 150 = .ok (.aload_n 0, 1) := by decide +kernel
theorem dX6_step_151 : decode cX6_step 151 = .ok (.getfield 72, 3) := by decide +kernel
theorem dX6_step_154 : decode cX6_step 154 = .ok (.goto 18, 3) := by decide +kernel
theorem dX6_step_157 : decode cX6_step 157 = .ok (.bipush 10, 2) := by decide +kernel
theorem dX6_step_159 : decode cX6_step 159 = .ok (.aload_n 0, 1) := by decide +kernel
theorem dX6_step_160 : decode cX6_step 160 = .ok (.getfield 72, 3) := by decide +kernel
theorem dX6_step_163 : decode cX6_step 163 = .ok (.imul, 1) := by decide +kernel
theorem dX6_step_164 : decode cX6_step 164 = .ok (.aload_n 0, 1) := by decide +kernel
theorem dX6_step_165 : decode cX6_step 165 = .ok (.invokevirtual 65, 3) := by decide +kernel
theorem dX6_step_168 : decode cX6_step 168 = .ok (.iadd, 1) := by decide +kernel
theorem dX6_step_169 : decode cX6_step 169 = .ok (.bipush 48, 2) := by decide +kernel
theorem dX6_step_171 : decode cX6_step 171 = .ok (.isub, 1) := by decide +kernel
theorem dX6_step_172 : decode cX6_step 172 = .ok (.putfield 72, 3) := by decide +kernel
theorem dX6_step_175 : decode cX6_step 175 = .ok (.aload_n 0, 1) := by decide +kernel
theorem dX6_step_176 : decode cX6_step 176 = .ok (.dup, 1) := by decide +kernel
theorem dX6_step_177 : decode cX6_step 177 = .ok (.getfield 62, 3) := by decide +kernel
theorem dX6_step_180 : decode cX6_step 180 = .ok (.iconst 1, 1) := by decide +kernel
theorem dX6_step_181 : decode cX6_step 181 = .ok (.iadd, 1) := by decide +kernel
theorem dX6_step_182 : decode cX6_step 182 = .ok (.putfield 62, 3) := by decide +kernel
theorem dX6_step_185 : decode cX6_step 185 = .ok (.goto (-59), 3) := by decide +kernel
theorem dX6_step_188 : decode cX6_step 188 = .ok (.aload_n 0, 1) := by decide +kernel
theorem dX6_step_189 : decode cX6_step 189 = .ok (.aload_n 0, 1) := by decide +kernel
theorem dX6_step_190 : decode cX6_step 190 = .ok (.getfield 72, 3) := by decide +kernel
theorem dX6_step_193 : decode cX6_step 193 = .ok (.bipush 99, 2) := by decide +kernel
theorem dX6_step_195 : decode cX6_step 195 = .ok (.if_icmp .gt 22, 3) := by decide +kernel
theorem dX6_step_198 : decode cX6_step 198 = .ok (.iload_n 1, 1) := by decide +kernel
theorem dX6_step_199 : decode cX6_step 199 = .ok (.bipush 48, 2) := by decide +kernel
theorem dX6_step_201 : decode cX6_step 201 = .ok (.if_icmp .ne 20, 3) := by decide +kernel
theorem dX6_step_204 : decode cX6_step 204 = .ok (.aload_n 0, 1) := by decide +kernel
theorem dX6_step_205 : decode cX6_step 205 = .ok (.getfield 62, 3) := by decide +kernel
theorem dX6_step_208 : decode cX6_step 208 = .ok (.aload_n 0, 1) := by decide +kernel
theorem dX6_step_209 : decode cX6_step 209 = .ok (.getfield 69, 3) := by decide +kernel
theorem dX6_step_212 : decode cX6_step 212 = .ok (.isub, 1) := by decide +kernel
theorem dX6_step_213 : decode cX6_step 213 = .ok (.iconst 1, 1) := by decide +kernel
theorem dX6_step_214 : decode cX6_step 214 = .ok (.if_icmp .le 7, 3) := by decide +kernel
theorem dX6_step_217 : decode cX6_step 217 = .ok (.iconst 4, 1) := by decide +kernel
theorem dX6_step_218 : decode cX6_step 218 = .ok (.goto 4, 3) := by decide +kernel
theorem dX6_step_221 : decode cX6_step 221 = .ok (.iconst 1, 1) := by decide +kernel
theorem dX6_step_222 : decode cX6_step 222 = .ok (.putfield 75, 3) := by decide +kernel
theorem dX6_step_225 : decode cX6_step 225 = .ok (.goto 28, 3) := by decide +kernel
theorem dX6_step_228 : decode cX6_step 228 = .ok (.aload_n 0, 1) := by decide +kernel
theorem dX6_step_229 : decode cX6_step 229 = .ok (.dup, 1) := by decide +kernel
theorem dX6_step_230 : decode cX6_step 230 = .ok (.getfield 62, 3) := by decide +kernel
theorem dX6_step_233 : decode cX6_step 233 = .ok (.iconst 1, 1) := by decide +kernel
theorem dX6_step_234 : decode cX6_step 234 = .ok (.iadd, 1) := by decide +kernel
theorem dX6_step_235 : decode cX6_step 235 = .ok (.putfield 62, 3) := by decide +kernel
theorem dX6_step_238 : decode cX6_step 238 = .ok (.aload_n 0, 1) := by decide +kernel
theorem dX6_step_239 : decode cX6_step 239 = .ok (.iload_n 1, 1) := by decide +kernel
theorem dX6_step_240 : decode cX6_step 240 = .ok (.bipush 59, 2) := by decide +kernel
theorem dX6_step_242 : decode cX6_step 242 = .ok (.if_icmp .ne 7, 3) := by decide +kernel
theorem dX6_step_245 : decode cX6_step 245 = .ok (.iconst 2, 1) := by decide +kernel
theorem dX6_step_246 : decode cX6_step 246 = .ok (.goto 4, 3) := by decide +kernel
theorem dX6_step_249 : decode cX6_step 249 = .ok (.iconst 4, 1) := by decide +kernel
theorem dX6_step_250 : decode cX6_step 250 = .ok (.putfield 75, 3) := by decide +kernel
theorem dX6_step_253 : decode cX6_step 253 = .ok (.return_, 1) := by decide +kernel
theorem dX6_due_0 : decode cX6_due 0 = .ok (.aload_n 0, 1) := by decide +kernel
theorem dX6_due_1 : decode cX6_due 1 = .ok (.getfield 72, 3) := by decide +kernel
theorem dX6_due_4 : decode cX6_due 4 = .ok (.istore_n 2, 1) := by decide +kernel
theorem dX6_due_5 : decode cX6_due 5 = .ok (.aload_n 0, 1) := by decide +kernel
theorem dX6_due_6 : decode cX6_due 6 = .ok (.getfield 78, 3) := by decide +kernel
theorem dX6_due_9 : decode cX6_due 9 = .ok (.bipush (-9), 2) := by decide +kernel
theorem dX6_due_11 : decode cX6_due 11 = .ok (.if_icmp .ne 22, 3) := by decide +kernel
theorem dX6_due_14 : decode cX6_due 14 = .ok (.iload_n 1, 1) := by decide +kernel
theorem dX6_due_15 : decode cX6_due 15 = .ok (.ifCond .eq 10, 3) := by decide +kernel
theorem dX6_due_18 : decode cX6_due 18 = .ok (.aload_n 0, 1) := by decide +kernel
theorem dX6_due_19 : decode cX6_due 19 = .ok (.invokevirtual 81, 3) := by decide +kernel
theorem dX6_due_22 : decode cX6_due 22 = .ok (.goto 11, 3) := by decide +kernel
theorem dX6_due_25 : decode cX6_due 25 = .ok (.aload_n 0, 1) := by decide +kernel
theorem dX6_due_26 : decode cX6_due 26 = .ok (.aload_n 0, 1) := by decide +kernel
theorem dX6_due_27 : decode cX6_due 27 = .ok (.getfield 69, 3) := by decide +kernel
theorem dX6_due_30 : decode cX6_due 30 = .ok (.putfield 78, 3) := by decide +kernel
theorem dX6_due_33 : decode cX6_due 33 = .ok (.iload_n 2, 1) := by decide +kernel
theorem dX6_due_34 : decode cX6_due 34 = .ok (.ireturn, 1) := by decide +kernel
theorem dX6_number_0 : decode cX6_number 0 = .ok (.aload_n 0, 1) := by decide +kernel
theorem dX6_number_1 : decode cX6_number 1 = .ok (.aload_n 0, 1) := by decide +kernel
theorem dX6_number_2 : decode cX6_number 2 = .ok (.getfield 75, 3) := by decide +kernel
theorem dX6_number_5 : decode cX6_number 5 = .ok (.iconst 1, 1) := by decide +kernel
theorem dX6_number_6 : decode cX6_number 6 = .ok (.if_icmp .ne 19, 3) := by decide +kernel
theorem dX6_number_9 : decode cX6_number 9 = .ok (.aload_n 0, 1) := by decide +kernel
theorem dX6_number_10 : decode cX6_number 10 = .ok (.getfield 72, 3) := by decide +kernel
theorem dX6_number_13 : decode cX6_number 13 = .ok (.iload_n 1, 1) := by decide +kernel
theorem dX6_number_14 : decode cX6_number 14 = .ok (.iload_n 2, 1) := by decide +kernel
theorem dX6_number_15 : decode cX6_number 15 = .ok (.invokestatic 54, 3) := by decide +kernel
theorem dX6_number_18 : decode cX6_number 18 = .ok (.ifCond .eq 7, 3) := by decide +kernel
theorem dX6_number_21 : decode cX6_number 21 = .ok (.iconst 1, 1) := by decide +kernel
theorem dX6_number_22 : decode cX6_number 22 = .ok (.goto 4, 3) := by decide +kernel
theorem dX6_number_25 : decode cX6_number 25 = .ok (.iconst 0, 1) := by decide +kernel
theorem dX6_number_26 : decode cX6_number 26 = .ok (.invokevirtual 84, 3) := by decide +kernel
theorem dX6_number_29 : decode cX6_number 29 = .ok (.ireturn, 1) := by decide +kernel
theorem dX6_mayBe_0 : decode cX6_mayBe 0 = .ok (.iload_n 1, 1) := by decide +kernel
theorem dX6_mayBe_1 : decode cX6_mayBe 1 = .ok (.lookupswitch 140 #[(98, 125), (100, 93), (109, 95), (114, 76), (118, 59), (119, 110)], 59) := by decide +kernel
theorem dX6_mayBe_60 : decode cX6_mayBe 60 = .ok (.aload_n 0, 1) := by decide +kernel
theorem dX6_mayBe_61 : decode cX6_mayBe 61 = .ok (.getfield 13, 3) := by decide +kernel
theorem dX6_mayBe_64 : decode cX6_mayBe 64 = .ok (.iconst 1, 1) := by decide +kernel
theorem dX6_mayBe_65 : decode cX6_mayBe 65 = .ok (.iaload, 1) := by decide +kernel
theorem dX6_mayBe_66 : decode cX6_mayBe 66 = .ok (.bipush 6, 2) := by decide +kernel
theorem dX6_mayBe_68 : decode cX6_mayBe 68 = .ok (.if_icmp .ge 7, 3) := by decide +kernel
theorem dX6_mayBe_71 : decode cX6_mayBe 71 = .ok (.iconst 1, 1) := by decide +kernel
theorem dX6_mayBe_72 : decode cX6_mayBe 72 = .ok (.goto 4, 3) := by decide +kernel
theorem dX6_mayBe_75 : decode cX6_mayBe 75 = .ok (.iconst 0, 1) := by decide +kernel
theorem dX6_mayBe_76 : decode cX6_mayBe 76 = .ok (.ireturn, 1) := by decide +kernel
theorem dX6_mayBe_77 : decode cX6_mayBe 77 = .ok (.aload_n 0, 1) := by decide +kernel
theorem dX6_mayBe_78 : decode cX6_mayBe 78 = .ok (.getfield 26, 3) := by decide +kernel
theorem dX6_mayBe_81 : decode cX6_mayBe 81 = .ok (.iconst 1, 1) := by decide +kernel
theorem dX6_mayBe_82 : decode cX6_mayBe 82 = .ok (.iaload, 1) := by decide +kernel
theorem dX6_mayBe_83 : decode cX6_mayBe 83 = .ok (.bipush 10, 2) := by decide +kernel
theorem dX6_mayBe_85 : decode cX6_mayBe 85 = .ok (.if_icmp .ge 7, 3) := by decide +kernel
theorem dX6_mayBe_88 : decode cX6_mayBe 88 = .ok (.iconst 1, 1) := by decide +kernel
theorem dX6_mayBe_89 : decode cX6_mayBe 89 = .ok (.goto 4, 3) := by decide +kernel
theorem dX6_mayBe_92 : decode cX6_mayBe 92 = .ok (.iconst 0, 1) := by decide +kernel
theorem dX6_mayBe_93 : decode cX6_mayBe 93 = .ok (.ireturn, 1) := by decide +kernel
theorem dX6_mayBe_94 : decode cX6_mayBe 94 = .ok (.iconst 1, 1) := by decide +kernel
theorem dX6_mayBe_95 : decode cX6_mayBe 95 = .ok (.ireturn, 1) := by decide +kernel
theorem dX6_mayBe_96 : decode cX6_mayBe 96 = .ok (.aload_n 0, 1) := by decide +kernel
theorem dX6_mayBe_97 : decode cX6_mayBe 97 = .ok (.getfield 88, 3) := by decide +kernel
theorem dX6_mayBe_100 : decode cX6_mayBe 100 = .ok (.iconst 1, 1) := by decide +kernel
theorem dX6_mayBe_101 : decode cX6_mayBe 101 = .ok (.iand, 1) := by decide +kernel
theorem dX6_mayBe_102 : decode cX6_mayBe 102 = .ok (.ifCond .ne 7, 3) := by decide +kernel
theorem dX6_mayBe_105 : decode cX6_mayBe 105 = .ok (.iconst 1, 1) := by decide +kernel
theorem dX6_mayBe_106 : decode cX6_mayBe 106 = .ok (.goto 4, 3) := by decide +kernel
theorem dX6_mayBe_109 : decode cX6_mayBe 109 = .ok (.iconst 0, 1) := by decide +kernel
theorem dX6_mayBe_110 : decode cX6_mayBe 110 = .ok (.ireturn, 1) := by decide +kernel
theorem dX6_mayBe_111 : decode cX6_mayBe 111 = .ok (.aload_n 0, 1) := by decide +kernel
theorem dX6_mayBe_112 : decode cX6_mayBe 112 = .ok (.getfield 88, 3) := by decide +kernel
theorem dX6_mayBe_115 : decode cX6_mayBe 115 = .ok (.iconst 2, 1) := by decide +kernel
theorem dX6_mayBe_116 : decode cX6_mayBe 116 = .ok (.iand, 1) := by decide +kernel
theorem dX6_mayBe_117 : decode cX6_mayBe 117 = .ok (.ifCond .ne 7, 3) := by decide +kernel
theorem dX6_mayBe_120 : decode cX6_mayBe 120 = .ok (.iconst 1, 1) := by decide +kernel
theorem dX6_mayBe_121 : decode cX6_mayBe 121 = .ok (.goto 4, 3) := by decide +kernel
theorem dX6_mayBe_124 : decode cX6_mayBe 124 = .ok (.iconst 0, 1) := by decide +kernel
theorem dX6_mayBe_125 : decode cX6_mayBe 125 = .ok (.ireturn, 1) := by decide +kernel
theorem dX6_mayBe_126 : decode cX6_mayBe 126 = .ok (.aload_n 0, 1) := by decide +kernel
theorem dX6_mayBe_127 : decode cX6_mayBe 127 = .ok (.getfield 88, 3) := by decide +kernel
theorem dX6_mayBe_130 : decode cX6_mayBe 130 = .ok (.iconst 4, 1) := by decide +kernel
theorem dX6_mayBe_131 : decode cX6_mayBe 131 = .ok (.iand, 1) := by decide +kernel
theorem dX6_mayBe_132 : decode cX6_mayBe 132 = .ok (.ifCond .ne 7, 3) := by decide +kernel
theorem dX6_mayBe_135 : decode cX6_mayBe 135 = .ok (.iconst 1, 1) := by decide +kernel
theorem dX6_mayBe_136 : decode cX6_mayBe 136 = .ok (.goto 4, 3) := by decide +kernel
theorem dX6_mayBe_139 : decode cX6_mayBe 139 = .ok (.iconst 0, 1) := by decide +kernel
theorem dX6_mayBe_140 : decode cX6_mayBe 140 = .ok (.ireturn, 1) := by decide +kernel
theorem dX6_mayBe_141 : decode cX6_mayBe 141 = .ok (.iconst 0, 1) := by decide +kernel
theorem dX6_mayBe_142 : decode cX6_mayBe 142 = .ok (.ireturn, 1) := by decide +kernel
theorem dX6_another_0 : decode cX6_another 0 = .ok (.aload_n 0, 1) := by decide +kernel
theorem dX6_another_1 : decode cX6_another 1 = .ok (.aload_n 0, 1) := by decide +kernel
theorem dX6_another_2 : decode cX6_another 2 = .ok (.getfield 75, 3) := by decide +kernel
theorem dX6_another_5 : decode cX6_another 5 = .ok (.iconst 1, 1) := by decide +kernel
theorem dX6_another_6 : decode cX6_another 6 = .ok (.if_icmp .ne 28, 3) := by decide +kernel
theorem dX6_another_9 : decode cX6_another 9 = .ok (.aload_n 0, 1) := by decide +kernel
theorem dX6_another_10 : decode cX6_another 10 = .ok (.getfield 72, 3) := by decide +kernel
theorem dX6_another_13 : decode cX6_another 13 = .ok (.aload_n 0, 1) := by decide +kernel
theorem dX6_another_14 : decode cX6_another 14 = .ok (.getfield 13, 3) := by decide +kernel
theorem dX6_another_17 : decode cX6_another 17 = .ok (.iconst 1, 1) := by decide +kernel
theorem dX6_another_18 : decode cX6_another 18 = .ok (.iaload, 1) := by decide +kernel
theorem dX6_another_19 : decode cX6_another 19 = .ok (.if_icmp .ge 15, 3) := by decide +kernel
theorem dX6_another_22 : decode cX6_another 22 = .ok (.aload_n 0, 1) := by decide +kernel
theorem dX6_another_23 : decode cX6_another 23 = .ok (.getfield 72, 3) := by decide +kernel
theorem dX6_another_26 : decode cX6_another 26 = .ok (.iload_n 1, 1) := by decide +kernel
theorem dX6_another_27 : decode cX6_another 27 = .ok (.if_icmp .eq 7, 3) := by decide +kernel
theorem dX6_another_30 : decode cX6_another 30 = .ok (.iconst 1, 1) := by decide +kernel
theorem dX6_another_31 : decode cX6_another 31 = .ok (.goto 4, 3) := by decide +kernel
theorem dX6_another_34 : decode cX6_another 34 = .ok (.iconst 0, 1) := by decide +kernel
theorem dX6_another_35 : decode cX6_another 35 = .ok (.invokevirtual 84, 3) := by decide +kernel
theorem dX6_another_38 : decode cX6_another 38 = .ok (.ireturn, 1) := by decide +kernel
theorem dX6_readRow_0 : decode cX6_readRow 0 = .ok (.iload_n 1, 1) := by decide +kernel
theorem dX6_readRow_1 : decode cX6_readRow 1 = .ok (.lookupswitch 367 #[(100, 225), (109, 315), (114, 123), (118, 51), (119, 341)], 51) := by decide +kernel
theorem dX6_readRow_52 : decode cX6_readRow 52 = .ok (.aload_n 0, 1) := by decide +kernel
theorem dX6_readRow_53 : decode cX6_readRow 53 = .ok (.getfield 17, 3) := by decide +kernel
theorem dX6_readRow_56 : decode cX6_readRow 56 = .ok (.aload_n 0, 1) := by decide +kernel
theorem dX6_readRow_57 : decode cX6_readRow 57 = .ok (.getfield 13, 3) := by decide +kernel
theorem dX6_readRow_60 : decode cX6_readRow 60 = .ok (.iconst 1, 1) := by decide +kernel
theorem dX6_readRow_61 : decode cX6_readRow 61 = .ok (.iaload, 1) := by decide +kernel
theorem dX6_readRow_62 : decode cX6_readRow 62 = .ok (.aload_n 0, 1) := by decide +kernel
theorem dX6_readRow_63 : decode cX6_readRow 63 = .ok (.iconst 0, 1) := by decide +kernel
theorem dX6_readRow_64 : decode cX6_readRow 64 = .ok (.bipush 60, 2) := by decide +kernel
theorem dX6_readRow_66 : decode cX6_readRow 66 = .ok (.invokevirtual 91, 3) := by decide +kernel
theorem dX6_readRow_69 : decode cX6_readRow 69 = .ok (.iastore, 1) := by decide +kernel
theorem dX6_readRow_70 : decode cX6_readRow 70 = .ok (.aload_n 0, 1) := by decide +kernel
theorem dX6_readRow_71 : decode cX6_readRow 71 = .ok (.getfield 20, 3) := by decide +kernel
theorem dX6_readRow_74 : decode cX6_readRow 74 = .ok (.bipush 6, 2) := by decide +kernel
theorem dX6_readRow_76 : decode cX6_readRow 76 = .ok (.aload_n 0, 1) := by decide +kernel
theorem dX6_readRow_77 : decode cX6_readRow 77 = .ok (.getfield 13, 3) := by decide +kernel
theorem dX6_readRow_80 : decode cX6_readRow 80 = .ok (.iconst 1, 1) := by decide +kernel
theorem dX6_readRow_81 : decode cX6_readRow 81 = .ok (.iaload, 1) := by decide +kernel
theorem dX6_readRow_82 : decode cX6_readRow 82 = .ok (.iadd, 1) := by decide +kernel
theorem dX6_readRow_83 : decode cX6_readRow 83 = .ok (.aload_n 0, 1) := by decide +kernel
theorem dX6_readRow_84 : decode cX6_readRow 84 = .ok (.iconst 0, 1) := by decide +kernel
theorem dX6_readRow_85 : decode cX6_readRow 85 = .ok (.bipush 60, 2) := by decide +kernel
theorem dX6_readRow_87 : decode cX6_readRow 87 = .ok (.invokevirtual 91, 3) := by decide +kernel
theorem dX6_readRow_90 : decode cX6_readRow 90 = .ok (.iastore, 1) := by decide +kernel
theorem dX6_readRow_91 : decode cX6_readRow 91 = .ok (.aload_n 0, 1) := by decide +kernel
theorem dX6_readRow_92 : decode cX6_readRow 92 = .ok (.getfield 23, 3) := by decide +kernel
theorem dX6_readRow_95 : decode cX6_readRow 95 = .ok (.bipush 6, 2) := by decide +kernel
theorem dX6_readRow_97 : decode cX6_readRow 97 = .ok (.aload_n 0, 1) := by decide +kernel
theorem dX6_readRow_98 : decode cX6_readRow 98 = .ok (.getfield 13, 3) := by decide +kernel
theorem dX6_readRow_101 : decode cX6_readRow 101 = .ok (.iconst 1, 1) := by decide +kernel
theorem dX6_readRow_102 : decode cX6_readRow 102 = .ok (.iaload, 1) := by decide +kernel
theorem dX6_readRow_103 : decode cX6_readRow 103 = .ok (.iadd, 1) := by decide +kernel
theorem dX6_readRow_104 : decode cX6_readRow 104 = .ok (.aload_n 0, 1) := by decide +kernel
theorem dX6_readRow_105 : decode cX6_readRow 105 = .ok (.iconst 0, 1) := by decide +kernel
theorem dX6_readRow_106 : decode cX6_readRow 106 = .ok (.iconst 1, 1) := by decide +kernel
theorem dX6_readRow_107 : decode cX6_readRow 107 = .ok (.invokevirtual 91, 3) := by decide +kernel
theorem dX6_readRow_110 : decode cX6_readRow 110 = .ok (.iastore, 1) := by decide +kernel
theorem dX6_readRow_111 : decode cX6_readRow 111 = .ok (.aload_n 0, 1) := by decide +kernel
theorem dX6_readRow_112 : decode cX6_readRow 112 = .ok (.getfield 13, 3) := by decide +kernel
theorem dX6_readRow_115 : decode cX6_readRow 115 = .ok (.iconst 1, 1) := by decide +kernel
theorem dX6_readRow_116 : decode cX6_readRow 116 = .ok (.dup2, 1) := by decide +kernel
theorem dX6_readRow_117 : decode cX6_readRow 117 = .ok (.iaload, 1) := by decide +kernel
theorem dX6_readRow_118 : decode cX6_readRow 118 = .ok (.iconst 1, 1) := by decide +kernel
theorem dX6_readRow_119 : decode cX6_readRow 119 = .ok (.iadd, 1) := by decide +kernel
theorem dX6_readRow_120 : decode cX6_readRow 120 = .ok (.iastore, 1) := by decide +kernel
theorem dX6_readRow_121 : decode cX6_readRow 121 = .ok (.goto 270, 3) := by decide +kernel
theorem dX6_readRow_124 : decode cX6_readRow 124 = .ok (.aload_n 0, 1) := by decide +kernel
theorem dX6_readRow_125 : decode cX6_readRow 125 = .ok (.iconst 0, 1) := by decide +kernel
theorem dX6_readRow_126 : decode cX6_readRow 126 = .ok (.aload_n 0, 1) := by decide +kernel
theorem dX6_readRow_127 : decode cX6_readRow 127 = .ok (.getfield 13, 3) := by decide +kernel
theorem dX6_readRow_130 : decode cX6_readRow 130 = .ok (.iconst 1, 1) := by decide +kernel
theorem dX6_readRow_131 : decode cX6_readRow 131 = .ok (.iaload, 1) := by decide +kernel
theorem dX6_readRow_132 : decode cX6_readRow 132 = .ok (.iconst 1, 1) := by decide +kernel
theorem dX6_readRow_133 : decode cX6_readRow 133 = .ok (.isub, 1) := by decide +kernel
theorem dX6_readRow_134 : decode cX6_readRow 134 = .ok (.invokevirtual 91, 3) := by decide +kernel
theorem dX6_readRow_137 : decode cX6_readRow 137 = .ok (.istore_n 2, 1) := by decide +kernel
theorem dX6_readRow_138 : decode cX6_readRow 138 = .ok (.aload_n 0, 1) := by decide +kernel
theorem dX6_readRow_139 : decode cX6_readRow 139 = .ok (.iload_n 2, 1) := by decide +kernel
theorem dX6_readRow_140 : decode cX6_readRow 140 = .ok (.invokevirtual 95, 3) := by decide +kernel
theorem dX6_readRow_143 : decode cX6_readRow 143 = .ok (.istore_n 3, 1) := by decide +kernel
theorem dX6_readRow_144 : decode cX6_readRow 144 = .ok (.aload_n 0, 1) := by decide +kernel
theorem dX6_readRow_145 : decode cX6_readRow 145 = .ok (.iconst 1, 1) := by decide +kernel
theorem dX6_readRow_146 : decode cX6_readRow 146 = .ok (.bipush 9, 2) := by decide +kernel
theorem dX6_readRow_148 : decode cX6_readRow 148 = .ok (.invokevirtual 91, 3) := by decide +kernel
theorem dX6_readRow_151 : decode cX6_readRow 151 = .ok (.istore 4, 2) := by decide +kernel
theorem dX6_readRow_153 : decode cX6_readRow 153 = .ok (.aload_n 0, 1) := by decide +kernel
theorem dX6_readRow_154 : decode cX6_readRow 154 = .ok (.getfield 78, 3) := by decide +kernel
theorem dX6_readRow_157 : decode cX6_readRow 157 = .ok (.bipush (-9), 2) := by decide +kernel
theorem dX6_readRow_159 : decode cX6_readRow 159 = .ok (.if_icmp .ne 54, 3) := by decide +kernel
theorem dX6_readRow_162 : decode cX6_readRow 162 = .ok (.iload 4, 2) := by decide +kernel
theorem dX6_readRow_164 : decode cX6_readRow 164 = .ok (.aload_n 0, 1) := by decide +kernel
theorem dX6_readRow_165 : decode cX6_readRow 165 = .ok (.getfield 29, 3) := by decide +kernel
theorem dX6_readRow_168 : decode cX6_readRow 168 = .ok (.bipush 36, 2) := by decide +kernel
theorem dX6_readRow_170 : decode cX6_readRow 170 = .ok (.bipush 6, 2) := by decide +kernel
theorem dX6_readRow_172 : decode cX6_readRow 172 = .ok (.iload_n 2, 1) := by decide +kernel
theorem dX6_readRow_173 : decode cX6_readRow 173 = .ok (.imul, 1) := by decide +kernel
theorem dX6_readRow_174 : decode cX6_readRow 174 = .ok (.iadd, 1) := by decide +kernel
theorem dX6_readRow_175 : decode cX6_readRow 175 = .ok (.iload_n 3, 1) := by decide +kernel
theorem dX6_readRow_176 : decode cX6_readRow 176 = .ok (.iadd, 1) := by decide +kernel
theorem dX6_readRow_177 : decode cX6_readRow 177 = .ok (.iaload, 1) := by decide +kernel
theorem dX6_readRow_178 : decode cX6_readRow 178 = .ok (.if_icmp .ge 35, 3) := by decide +kernel
theorem dX6_readRow_181 : decode cX6_readRow 181 = .ok (.aload_n 0, 1) := by decide +kernel
theorem dX6_readRow_182 : decode cX6_readRow 182 = .ok (.getfield 29, 3) := by decide +kernel
theorem dX6_readRow_185 : decode cX6_readRow 185 = .ok (.bipush 36, 2) := by decide +kernel
theorem dX6_readRow_187 : decode cX6_readRow 187 = .ok (.bipush 6, 2) := by decide +kernel
theorem dX6_readRow_189 : decode cX6_readRow 189 = .ok (.iload_n 2, 1) := by decide +kernel
theorem dX6_readRow_190 : decode cX6_readRow 190 = .ok (.imul, 1) := by decide +kernel
theorem dX6_readRow_191 : decode cX6_readRow 191 = .ok (.iadd, 1) := by decide +kernel
theorem dX6_readRow_192 : decode cX6_readRow 192 = .ok (.iload_n 3, 1) := by decide +kernel
theorem dX6_readRow_193 : decode cX6_readRow 193 = .ok (.iadd, 1) := by decide +kernel
theorem dX6_readRow_194 : decode cX6_readRow 194 = .ok (.iload 4, 2) := by decide +kernel
theorem dX6_readRow_196 : decode cX6_readRow 196 = .ok (.iastore, 1) := by decide +kernel
theorem dX6_readRow_197 : decode cX6_readRow 197 = .ok (.aload_n 0, 1) := by decide +kernel
theorem dX6_readRow_198 : decode cX6_readRow 198 = .ok (.getfield 29, 3) := by decide +kernel
theorem dX6_readRow_201 : decode cX6_readRow 201 = .ok (.bipush 36, 2) := by decide +kernel
theorem dX6_readRow_203 : decode cX6_readRow 203 = .ok (.bipush 6, 2) := by decide +kernel
theorem dX6_readRow_205 : decode cX6_readRow 205 = .ok (.iload_n 3, 1) := by decide +kernel
theorem dX6_readRow_206 : decode cX6_readRow 206 = .ok (.imul, 1) := by decide +kernel
theorem dX6_readRow_207 : decode cX6_readRow 207 = .ok (.iadd, 1) := by decide +kernel
theorem dX6_readRow_208 : decode cX6_readRow 208 = .ok (.iload_n 2, 1) := by decide +kernel
theorem dX6_readRow_209 : decode cX6_readRow 209 = .ok (.iadd, 1) := by decide +kernel
theorem dX6_readRow_210 : decode cX6_readRow 210 = .ok (.iload 4, 2) := by decide +kernel
theorem dX6_readRow_212 : decode cX6_readRow 212 = .ok (.iastore, 1) := by decide +kernel
theorem dX6_readRow_213 : decode cX6_readRow 213 = .ok (.aload_n 0, 1) := by decide +kernel
theorem dX6_readRow_214 : decode cX6_readRow 214 = .ok (.getfield 26, 3) := by decide +kernel
theorem dX6_readRow_217 : decode cX6_readRow 217 = .ok (.iconst 1, 1) := by decide +kernel
theorem dX6_readRow_218 : decode cX6_readRow 218 = .ok (.dup2, 1) := by decide +kernel
theorem dX6_readRow_219 : decode cX6_readRow 219 = .ok (.iaload, 1) := by decide +kernel
theorem dX6_readRow_220 : decode cX6_readRow 220 = .ok (.iconst 1, 1) := by decide +kernel
theorem dX6_readRow_221 : decode cX6_readRow 221 = .ok (.iadd, 1) := by decide +kernel
theorem dX6_readRow_222 : decode cX6_readRow 222 = .ok (.iastore, 1) := by decide +kernel
theorem dX6_readRow_223 : decode cX6_readRow 223 = .ok (.goto 168, 3) := by decide +kernel
theorem dX6_readRow_226 : decode cX6_readRow 226 = .ok (.aload_n 0, 1) := by decide +kernel
theorem dX6_readRow_227 : decode cX6_readRow 227 = .ok (.iconst 0, 1) := by decide +kernel
theorem dX6_readRow_228 : decode cX6_readRow 228 = .ok (.aload_n 0, 1) := by decide +kernel
theorem dX6_readRow_229 : decode cX6_readRow 229 = .ok (.getfield 13, 3) := by decide +kernel
theorem dX6_readRow_232 : decode cX6_readRow 232 = .ok (.iconst 1, 1) := by decide +kernel
theorem dX6_readRow_233 : decode cX6_readRow 233 = .ok (.iaload, 1) := by decide +kernel
theorem dX6_readRow_234 : decode cX6_readRow 234 = .ok (.iconst 1, 1) := by decide +kernel
theorem dX6_readRow_235 : decode cX6_readRow 235 = .ok (.isub, 1) := by decide +kernel
theorem dX6_readRow_236 : decode cX6_readRow 236 = .ok (.invokevirtual 91, 3) := by decide +kernel
theorem dX6_readRow_239 : decode cX6_readRow 239 = .ok (.istore_n 2, 1) := by decide +kernel
theorem dX6_readRow_240 : decode cX6_readRow 240 = .ok (.aload_n 0, 1) := by decide +kernel
theorem dX6_readRow_241 : decode cX6_readRow 241 = .ok (.iload_n 2, 1) := by decide +kernel
theorem dX6_readRow_242 : decode cX6_readRow 242 = .ok (.invokevirtual 95, 3) := by decide +kernel
theorem dX6_readRow_245 : decode cX6_readRow 245 = .ok (.istore_n 3, 1) := by decide +kernel
theorem dX6_readRow_246 : decode cX6_readRow 246 = .ok (.aload_n 0, 1) := by decide +kernel
theorem dX6_readRow_247 : decode cX6_readRow 247 = .ok (.iconst 1, 1) := by decide +kernel
theorem dX6_readRow_248 : decode cX6_readRow 248 = .ok (.bipush 99, 2) := by decide +kernel
theorem dX6_readRow_250 : decode cX6_readRow 250 = .ok (.invokevirtual 91, 3) := by decide +kernel
theorem dX6_readRow_253 : decode cX6_readRow 253 = .ok (.istore 4, 2) := by decide +kernel
theorem dX6_readRow_255 : decode cX6_readRow 255 = .ok (.aload_n 0, 1) := by decide +kernel
theorem dX6_readRow_256 : decode cX6_readRow 256 = .ok (.getfield 78, 3) := by decide +kernel
theorem dX6_readRow_259 : decode cX6_readRow 259 = .ok (.bipush (-9), 2) := by decide +kernel
theorem dX6_readRow_261 : decode cX6_readRow 261 = .ok (.if_icmp .ne 130, 3) := by decide +kernel
theorem dX6_readRow_264 : decode cX6_readRow 264 = .ok (.aload_n 0, 1) := by decide +kernel
theorem dX6_readRow_265 : decode cX6_readRow 265 = .ok (.getfield 32, 3) := by decide +kernel
theorem dX6_readRow_268 : decode cX6_readRow 268 = .ok (.bipush 36, 2) := by decide +kernel
theorem dX6_readRow_270 : decode cX6_readRow 270 = .ok (.bipush 6, 2) := by decide +kernel
theorem dX6_readRow_272 : decode cX6_readRow 272 = .ok (.iload_n 2, 1) := by decide +kernel
theorem dX6_readRow_273 : decode cX6_readRow 273 = .ok (.imul, 1) := by decide +kernel
theorem dX6_readRow_274 : decode cX6_readRow 274 = .ok (.iadd, 1) := by decide +kernel
theorem dX6_readRow_275 : decode cX6_readRow 275 = .ok (.iload_n 3, 1) := by decide +kernel
theorem dX6_readRow_276 : decode cX6_readRow 276 = .ok (.iadd, 1) := by decide +kernel
theorem dX6_readRow_277 : decode cX6_readRow 277 = .ok (.iaload, 1) := by decide +kernel
theorem dX6_readRow_278 : decode cX6_readRow 278 = .ok (.iload 4, 2) := by decide +kernel
theorem dX6_readRow_280 : decode cX6_readRow 280 = .ok (.iadd, 1) := by decide +kernel
theorem dX6_readRow_281 : decode cX6_readRow 281 = .ok (.istore 5, 2) := by decide +kernel
theorem dX6_readRow_283 : decode cX6_readRow 283 = .ok (.aload_n 0, 1) := by decide +kernel
theorem dX6_readRow_284 : decode cX6_readRow 284 = .ok (.getfield 32, 3) := by decide +kernel
theorem dX6_readRow_287 : decode cX6_readRow 287 = .ok (.bipush 36, 2) := by decide +kernel
theorem dX6_readRow_289 : decode cX6_readRow 289 = .ok (.bipush 6, 2) := by decide +kernel
theorem dX6_readRow_291 : decode cX6_readRow 291 = .ok (.iload_n 2, 1) := by decide +kernel
theorem dX6_readRow_292 : decode cX6_readRow 292 = .ok (.imul, 1) := by decide +kernel
theorem dX6_readRow_293 : decode cX6_readRow 293 = .ok (.iadd, 1) := by decide +kernel
theorem dX6_readRow_294 : decode cX6_readRow 294 = .ok (.iload_n 3, 1) := by decide +kernel
theorem dX6_readRow_295 : decode cX6_readRow 295 = .ok (.iadd, 1) := by decide +kernel
theorem dX6_readRow_296 : decode cX6_readRow 296 = .ok (.iload 5, 2) := by decide +kernel
theorem dX6_readRow_298 : decode cX6_readRow 298 = .ok (.sipush 999, 3) := by decide +kernel
theorem dX6_readRow_301 : decode cX6_readRow 301 = .ok (.if_icmp .le 9, 3) := by decide +kernel
theorem dX6_readRow_304 : decode cX6_readRow 304 = .ok (.sipush 999, 3) := by decide +kernel
theorem dX6_readRow_307 : decode cX6_readRow 307 = .ok (.goto 5, 3) := by decide +kernel
theorem dX6_readRow_310 : decode cX6_readRow 310 = .ok (.iload 5, 2) := by decide +kernel
theorem dX6_readRow_312 : decode cX6_readRow 312 = .ok (.iastore, 1) := by decide +kernel
theorem dX6_readRow_313 : decode cX6_readRow 313 = .ok (.goto 78, 3) := by decide +kernel
theorem dX6_readRow_316 : decode cX6_readRow 316 = .ok (.aload_n 0, 1) := by decide +kernel
theorem dX6_readRow_317 : decode cX6_readRow 317 = .ok (.getfield 35, 3) := by decide +kernel
theorem dX6_readRow_320 : decode cX6_readRow 320 = .ok (.iconst 3, 1) := by decide +kernel
theorem dX6_readRow_321 : decode cX6_readRow 321 = .ok (.aload_n 0, 1) := by decide +kernel
theorem dX6_readRow_322 : decode cX6_readRow 322 = .ok (.iconst 1, 1) := by decide +kernel
theorem dX6_readRow_323 : decode cX6_readRow 323 = .ok (.bipush 9, 2) := by decide +kernel
theorem dX6_readRow_325 : decode cX6_readRow 325 = .ok (.invokevirtual 91, 3) := by decide +kernel
theorem dX6_readRow_328 : decode cX6_readRow 328 = .ok (.iastore, 1) := by decide +kernel
theorem dX6_readRow_329 : decode cX6_readRow 329 = .ok (.aload_n 0, 1) := by decide +kernel
theorem dX6_readRow_330 : decode cX6_readRow 330 = .ok (.dup, 1) := by decide +kernel
theorem dX6_readRow_331 : decode cX6_readRow 331 = .ok (.getfield 88, 3) := by decide +kernel
theorem dX6_readRow_334 : decode cX6_readRow 334 = .ok (.iconst 1, 1) := by decide +kernel
theorem dX6_readRow_335 : decode cX6_readRow 335 = .ok (.ior, 1) := by decide +kernel
theorem dX6_readRow_336 : decode cX6_readRow 336 = .ok (.putfield 88, 3) := by decide +kernel
theorem dX6_readRow_339 : decode cX6_readRow 339 = .ok (.goto 52, 3) := by decide +kernel
theorem dX6_readRow_342 : decode cX6_readRow 342 = .ok (.aload_n 0, 1) := by decide +kernel
theorem dX6_readRow_343 : decode cX6_readRow 343 = .ok (.getfield 35, 3) := by decide +kernel
theorem dX6_readRow_346 : decode cX6_readRow 346 = .ok (.iconst 4, 1) := by decide +kernel
theorem dX6_readRow_347 : decode cX6_readRow 347 = .ok (.aload_n 0, 1) := by decide +kernel
theorem dX6_readRow_348 : decode cX6_readRow 348 = .ok (.iconst 0, 1) := by decide +kernel
theorem dX6_readRow_349 : decode cX6_readRow 349 = .ok (.bipush 10, 2) := by decide +kernel
theorem dX6_readRow_351 : decode cX6_readRow 351 = .ok (.invokevirtual 91, 3) := by decide +kernel
theorem dX6_readRow_354 : decode cX6_readRow 354 = .ok (.iastore, 1) := by decide +kernel
theorem dX6_readRow_355 : decode cX6_readRow 355 = .ok (.aload_n 0, 1) := by decide +kernel
theorem dX6_readRow_356 : decode cX6_readRow 356 = .ok (.dup, 1) := by decide +kernel
theorem dX6_readRow_357 : decode cX6_readRow 357 = .ok (.getfield 88, 3) := by decide +kernel
theorem dX6_readRow_360 : decode cX6_readRow 360 = .ok (.iconst 2, 1) := by decide +kernel
theorem dX6_readRow_361 : decode cX6_readRow 361 = .ok (.ior, 1) := by decide +kernel
theorem dX6_readRow_362 : decode cX6_readRow 362 = .ok (.putfield 88, 3) := by decide +kernel
theorem dX6_readRow_365 : decode cX6_readRow 365 = .ok (.goto 26, 3) := by decide +kernel
theorem dX6_readRow_368 : decode cX6_readRow 368 = .ok (.aload_n 0, 1) := by decide +kernel
theorem dX6_readRow_369 : decode cX6_readRow 369 = .ok (.getfield 35, 3) := by decide +kernel
theorem dX6_readRow_372 : decode cX6_readRow 372 = .ok (.iconst 5, 1) := by decide +kernel
theorem dX6_readRow_373 : decode cX6_readRow 373 = .ok (.aload_n 0, 1) := by decide +kernel
theorem dX6_readRow_374 : decode cX6_readRow 374 = .ok (.iconst 0, 1) := by decide +kernel
theorem dX6_readRow_375 : decode cX6_readRow 375 = .ok (.bipush 99, 2) := by decide +kernel
theorem dX6_readRow_377 : decode cX6_readRow 377 = .ok (.invokevirtual 91, 3) := by decide +kernel
theorem dX6_readRow_380 : decode cX6_readRow 380 = .ok (.iastore, 1) := by decide +kernel
theorem dX6_readRow_381 : decode cX6_readRow 381 = .ok (.aload_n 0, 1) := by decide +kernel
theorem dX6_readRow_382 : decode cX6_readRow 382 = .ok (.dup, 1) := by decide +kernel
theorem dX6_readRow_383 : decode cX6_readRow 383 = .ok (.getfield 88, 3) := by decide +kernel
theorem dX6_readRow_386 : decode cX6_readRow 386 = .ok (.iconst 4, 1) := by decide +kernel
theorem dX6_readRow_387 : decode cX6_readRow 387 = .ok (.ior, 1) := by decide +kernel
theorem dX6_readRow_388 : decode cX6_readRow 388 = .ok (.putfield 88, 3) := by decide +kernel
theorem dX6_readRow_391 : decode cX6_readRow 391 = .ok (.return_, 1) := by decide +kernel
theorem dX6_plain_0 : decode cX6_plain 0 = .ok (.aload_n 0, 1) := by decide +kernel
theorem dX6_plain_1 : decode cX6_plain 1 = .ok (.getfield 13, 3) := by decide +kernel
theorem dX6_plain_4 : decode cX6_plain 4 = .ok (.iconst 1, 1) := by decide +kernel
theorem dX6_plain_5 : decode cX6_plain 5 = .ok (.iconst 0, 1) := by decide +kernel
theorem dX6_plain_6 : decode cX6_plain 6 = .ok (.iastore, 1) := by decide +kernel
theorem dX6_plain_7 : decode cX6_plain 7 = .ok (.aload_n 0, 1) := by decide +kernel
theorem dX6_plain_8 : decode cX6_plain 8 = .ok (.getfield 26, 3) := by decide +kernel
theorem dX6_plain_11 : decode cX6_plain 11 = .ok (.iconst 1, 1) := by decide +kernel
theorem dX6_plain_12 : decode cX6_plain 12 = .ok (.iconst 0, 1) := by decide +kernel
theorem dX6_plain_13 : decode cX6_plain 13 = .ok (.iastore, 1) := by decide +kernel
theorem dX6_plain_14 : decode cX6_plain 14 = .ok (.aload_n 0, 1) := by decide +kernel
theorem dX6_plain_15 : decode cX6_plain 15 = .ok (.getfield 35, 3) := by decide +kernel
theorem dX6_plain_18 : decode cX6_plain 18 = .ok (.iconst 3, 1) := by decide +kernel
theorem dX6_plain_19 : decode cX6_plain 19 = .ok (.iconst 3, 1) := by decide +kernel
theorem dX6_plain_20 : decode cX6_plain 20 = .ok (.iastore, 1) := by decide +kernel
theorem dX6_plain_21 : decode cX6_plain 21 = .ok (.aload_n 0, 1) := by decide +kernel
theorem dX6_plain_22 : decode cX6_plain 22 = .ok (.getfield 35, 3) := by decide +kernel
theorem dX6_plain_25 : decode cX6_plain 25 = .ok (.iconst 4, 1) := by decide +kernel
theorem dX6_plain_26 : decode cX6_plain 26 = .ok (.bipush 8, 2) := by decide +kernel
theorem dX6_plain_28 : decode cX6_plain 28 = .ok (.iastore, 1) := by decide +kernel
theorem dX6_plain_29 : decode cX6_plain 29 = .ok (.aload_n 0, 1) := by decide +kernel
theorem dX6_plain_30 : decode cX6_plain 30 = .ok (.getfield 35, 3) := by decide +kernel
theorem dX6_plain_33 : decode cX6_plain 33 = .ok (.iconst 5, 1) := by decide +kernel
theorem dX6_plain_34 : decode cX6_plain 34 = .ok (.iconst 0, 1) := by decide +kernel
theorem dX6_plain_35 : decode cX6_plain 35 = .ok (.iastore, 1) := by decide +kernel
theorem dX6_plain_36 : decode cX6_plain 36 = .ok (.aload_n 0, 1) := by decide +kernel
theorem dX6_plain_37 : decode cX6_plain 37 = .ok (.iconst 0, 1) := by decide +kernel
theorem dX6_plain_38 : decode cX6_plain 38 = .ok (.putfield 88, 3) := by decide +kernel
theorem dX6_plain_41 : decode cX6_plain 41 = .ok (.iconst 0, 1) := by decide +kernel
theorem dX6_plain_42 : decode cX6_plain 42 = .ok (.istore_n 1, 1) := by decide +kernel
theorem dX6_plain_43 : decode cX6_plain 43 = .ok (.iload_n 1, 1) := by decide +kernel
theorem dX6_plain_44 : decode cX6_plain 44 = .ok (.bipush 36, 2) := by decide +kernel
theorem dX6_plain_46 : decode cX6_plain 46 = .ok (.if_icmp .ge 46, 3) := by decide +kernel
theorem dX6_plain_49 : decode cX6_plain 49 = .ok (.aload_n 0, 1) := by decide +kernel
theorem dX6_plain_50 : decode cX6_plain 50 = .ok (.getfield 29, 3) := by decide +kernel
theorem dX6_plain_53 : decode cX6_plain 53 = .ok (.bipush 36, 2) := by decide +kernel
theorem dX6_plain_55 : decode cX6_plain 55 = .ok (.iload_n 1, 1) := by decide +kernel
theorem dX6_plain_56 : decode cX6_plain 56 = .ok (.iadd, 1) := by decide +kernel
theorem dX6_plain_57 : decode cX6_plain 57 = .ok (.iload_n 1, 1) := by decide +kernel
theorem dX6_plain_58 : decode cX6_plain 58 = .ok (.bipush 6, 2) := by decide +kernel
theorem dX6_plain_60 : decode cX6_plain 60 = .ok (.idiv, 1) := by decide +kernel
theorem dX6_plain_61 : decode cX6_plain 61 = .ok (.iload_n 1, 1) := by decide +kernel
theorem dX6_plain_62 : decode cX6_plain 62 = .ok (.bipush 6, 2) := by decide +kernel
theorem dX6_plain_64 : decode cX6_plain 64 = .ok (.irem, 1) := by decide +kernel
theorem dX6_plain_65 : decode cX6_plain 65 = .ok (.if_icmp .ne 7, 3) := by decide +kernel
theorem dX6_plain_68 : decode cX6_plain 68 = .ok (.iconst 0, 1) := by decide +kernel
theorem dX6_plain_69 : decode cX6_plain 69 = .ok (.goto 6, 3) := by decide +kernel
theorem dX6_plain_72 : decode cX6_plain 72 = .ok (.sipush 1000, 3) := by decide +kernel
theorem dX6_plain_75 : decode cX6_plain 75 = .ok (.iastore, 1) := by decide +kernel
theorem dX6_plain_76 : decode cX6_plain 76 = .ok (.aload_n 0, 1) := by decide +kernel
theorem dX6_plain_77 : decode cX6_plain 77 = .ok (.getfield 32, 3) := by decide +kernel
theorem dX6_plain_80 : decode cX6_plain 80 = .ok (.bipush 36, 2) := by decide +kernel
theorem dX6_plain_82 : decode cX6_plain 82 = .ok (.iload_n 1, 1) := by decide +kernel
theorem dX6_plain_83 : decode cX6_plain 83 = .ok (.iadd, 1) := by decide +kernel
theorem dX6_plain_84 : decode cX6_plain 84 = .ok (.iconst 0, 1) := by decide +kernel
theorem dX6_plain_85 : decode cX6_plain 85 = .ok (.iastore, 1) := by decide +kernel
theorem dX6_plain_86 : decode cX6_plain 86 = .ok (.iinc 1 1, 3) := by decide +kernel
theorem dX6_plain_89 : decode cX6_plain 89 = .ok (.goto (-46), 3) := by decide +kernel
theorem dX6_plain_92 : decode cX6_plain 92 = .ok (.return_, 1) := by decide +kernel
theorem dX6_takeDraft_0 : decode cX6_takeDraft 0 = .ok (.aload_n 0, 1) := by decide +kernel
theorem dX6_takeDraft_1 : decode cX6_takeDraft 1 = .ok (.getfield 13, 3) := by decide +kernel
theorem dX6_takeDraft_4 : decode cX6_takeDraft 4 = .ok (.iconst 0, 1) := by decide +kernel
theorem dX6_takeDraft_5 : decode cX6_takeDraft 5 = .ok (.aload_n 0, 1) := by decide +kernel
theorem dX6_takeDraft_6 : decode cX6_takeDraft 6 = .ok (.getfield 13, 3) := by decide +kernel
theorem dX6_takeDraft_9 : decode cX6_takeDraft 9 = .ok (.iconst 1, 1) := by decide +kernel
theorem dX6_takeDraft_10 : decode cX6_takeDraft 10 = .ok (.iaload, 1) := by decide +kernel
theorem dX6_takeDraft_11 : decode cX6_takeDraft 11 = .ok (.iastore, 1) := by decide +kernel
theorem dX6_takeDraft_12 : decode cX6_takeDraft 12 = .ok (.aload_n 0, 1) := by decide +kernel
theorem dX6_takeDraft_13 : decode cX6_takeDraft 13 = .ok (.getfield 26, 3) := by decide +kernel
theorem dX6_takeDraft_16 : decode cX6_takeDraft 16 = .ok (.iconst 0, 1) := by decide +kernel
theorem dX6_takeDraft_17 : decode cX6_takeDraft 17 = .ok (.aload_n 0, 1) := by decide +kernel
theorem dX6_takeDraft_18 : decode cX6_takeDraft 18 = .ok (.getfield 26, 3) := by decide +kernel
theorem dX6_takeDraft_21 : decode cX6_takeDraft 21 = .ok (.iconst 1, 1) := by decide +kernel
theorem dX6_takeDraft_22 : decode cX6_takeDraft 22 = .ok (.iaload, 1) := by decide +kernel
theorem dX6_takeDraft_23 : decode cX6_takeDraft 23 = .ok (.iastore, 1) := by decide +kernel
theorem dX6_takeDraft_24 : decode cX6_takeDraft 24 = .ok (.iconst 0, 1) := by decide +kernel
theorem dX6_takeDraft_25 : decode cX6_takeDraft 25 = .ok (.istore_n 1, 1) := by decide +kernel
theorem dX6_takeDraft_26 : decode cX6_takeDraft 26 = .ok (.iload_n 1, 1) := by decide +kernel
theorem dX6_takeDraft_27 : decode cX6_takeDraft 27 = .ok (.iconst 3, 1) := by decide +kernel
theorem dX6_takeDraft_28 : decode cX6_takeDraft 28 = .ok (.if_icmp .ge 23, 3) := by decide +kernel
theorem dX6_takeDraft_31 : decode cX6_takeDraft 31 = .ok (.aload_n 0, 1) := by decide +kernel
theorem dX6_takeDraft_32 : decode cX6_takeDraft 32 = .ok (.getfield 35, 3) := by decide +kernel
theorem dX6_takeDraft_35 : decode cX6_takeDraft 35 = .ok (.iload_n 1, 1) := by decide +kernel
theorem dX6_takeDraft_36 : decode cX6_takeDraft 36 = .ok (.aload_n 0, 1) := by decide +kernel
theorem dX6_takeDraft_37 : decode cX6_takeDraft 37 = .ok (.getfield 35, 3) := by decide +kernel
theorem dX6_takeDraft_40 : decode cX6_takeDraft 40 = .ok (.iconst 3, 1) := by decide +kernel
theorem dX6_takeDraft_41 : decode cX6_takeDraft 41 = .ok (.iload_n 1, 1) := by decide +kernel
theorem dX6_takeDraft_42 : decode cX6_takeDraft 42 = .ok (.iadd, 1) := by decide +kernel
theorem dX6_takeDraft_43 : decode cX6_takeDraft 43 = .ok (.iaload, 1) := by decide +kernel
theorem dX6_takeDraft_44 : decode cX6_takeDraft 44 = .ok (.iastore, 1) := by decide +kernel
theorem dX6_takeDraft_45 : decode cX6_takeDraft 45 = .ok (.iinc 1 1, 3) := by decide +kernel
theorem dX6_takeDraft_48 : decode cX6_takeDraft 48 = .ok (.goto (-22), 3) := by decide +kernel
theorem dX6_takeDraft_51 : decode cX6_takeDraft 51 = .ok (.iconst 0, 1) := by decide +kernel
theorem dX6_takeDraft_52 : decode cX6_takeDraft 52 = .ok (.istore_n 1, 1) := by decide +kernel
theorem dX6_takeDraft_53 : decode cX6_takeDraft 53 = .ok (.iload_n 1, 1) := by decide +kernel
theorem dX6_takeDraft_54 : decode cX6_takeDraft 54 = .ok (.bipush 28, 2) := by decide +kernel
theorem dX6_takeDraft_56 : decode cX6_takeDraft 56 = .ok (.if_icmp .ge 16, 3) := by decide +kernel
theorem dX6_takeDraft_59 : decode cX6_takeDraft 59 = .ok (.aload_n 0, 1) := by decide +kernel
theorem dX6_takeDraft_60 : decode cX6_takeDraft 60 = .ok (.getfield 38, 3) := by decide +kernel
theorem dX6_takeDraft_63 : decode cX6_takeDraft 63 = .ok (.iload_n 1, 1) := by decide +kernel
theorem dX6_takeDraft_64 : decode cX6_takeDraft 64 = .ok (.iconst 0, 1) := by decide +kernel
theorem dX6_takeDraft_65 : decode cX6_takeDraft 65 = .ok (.iastore, 1) := by decide +kernel
theorem dX6_takeDraft_66 : decode cX6_takeDraft 66 = .ok (.iinc 1 1, 3) := by decide +kernel
theorem dX6_takeDraft_69 : decode cX6_takeDraft 69 = .ok (.goto (-16), 3) := by decide +kernel
theorem dX6_takeDraft_72 : decode cX6_takeDraft 72 = .ok (.iconst 0, 1) := by decide +kernel
theorem dX6_takeDraft_73 : decode cX6_takeDraft 73 = .ok (.istore_n 1, 1) := by decide +kernel
theorem dX6_takeDraft_74 : decode cX6_takeDraft 74 = .ok (.iload_n 1, 1) := by decide +kernel
theorem dX6_takeDraft_75 : decode cX6_takeDraft 75 = .ok (.bipush 6, 2) := by decide +kernel
theorem dX6_takeDraft_77 : decode cX6_takeDraft 77 = .ok (.if_icmp .ge 67, 3) := by decide +kernel
theorem dX6_takeDraft_80 : decode cX6_takeDraft 80 = .ok (.aload_n 0, 1) := by decide +kernel
theorem dX6_takeDraft_81 : decode cX6_takeDraft 81 = .ok (.getfield 20, 3) := by decide +kernel
theorem dX6_takeDraft_84 : decode cX6_takeDraft 84 = .ok (.iload_n 1, 1) := by decide +kernel
theorem dX6_takeDraft_85 : decode cX6_takeDraft 85 = .ok (.aload_n 0, 1) := by decide +kernel
theorem dX6_takeDraft_86 : decode cX6_takeDraft 86 = .ok (.getfield 20, 3) := by decide +kernel
theorem dX6_takeDraft_89 : decode cX6_takeDraft 89 = .ok (.bipush 6, 2) := by decide +kernel
theorem dX6_takeDraft_91 : decode cX6_takeDraft 91 = .ok (.iload_n 1, 1) := by decide +kernel
theorem dX6_takeDraft_92 : decode cX6_takeDraft 92 = .ok (.iadd, 1) := by decide +kernel
theorem dX6_takeDraft_93 : decode cX6_takeDraft 93 = .ok (.iaload, 1) := by decide +kernel
theorem dX6_takeDraft_94 : decode cX6_takeDraft 94 = .ok (.iastore, 1) := by decide +kernel
theorem dX6_takeDraft_95 : decode cX6_takeDraft 95 = .ok (.aload_n 0, 1) := by decide +kernel
theorem dX6_takeDraft_96 : decode cX6_takeDraft 96 = .ok (.getfield 23, 3) := by decide +kernel
theorem dX6_takeDraft_99 : decode cX6_takeDraft 99 = .ok (.iload_n 1, 1) := by decide +kernel
theorem dX6_takeDraft_100 : decode cX6_takeDraft 100 = .ok (.aload_n 0, 1) := by decide +kernel
theorem dX6_takeDraft_101 : decode cX6_takeDraft 101 = .ok (.getfield 23, 3) := by decide +kernel
theorem dX6_takeDraft_104 : decode cX6_takeDraft 104 = .ok (.bipush 6, 2) := by decide +kernel
theorem dX6_takeDraft_106 : decode cX6_takeDraft 106 = .ok (.iload_n 1, 1) := by decide +kernel
theorem dX6_takeDraft_107 : decode cX6_takeDraft 107 = .ok (.iadd, 1) := by decide +kernel
theorem dX6_takeDraft_108 : decode cX6_takeDraft 108 = .ok (.iaload, 1) := by decide +kernel
theorem dX6_takeDraft_109 : decode cX6_takeDraft 109 = .ok (.iastore, 1) := by decide +kernel
theorem dX6_takeDraft_110 : decode cX6_takeDraft 110 = .ok (.aload_n 0, 1) := by decide +kernel
theorem dX6_takeDraft_111 : decode cX6_takeDraft 111 = .ok (.getfield 38, 3) := by decide +kernel
theorem dX6_takeDraft_114 : decode cX6_takeDraft 114 = .ok (.iconst 4, 1) := by decide +kernel
theorem dX6_takeDraft_115 : decode cX6_takeDraft 115 = .ok (.iload_n 1, 1) := by decide +kernel
theorem dX6_takeDraft_116 : decode cX6_takeDraft 116 = .ok (.iadd, 1) := by decide +kernel
theorem dX6_takeDraft_117 : decode cX6_takeDraft 117 = .ok (.iload_n 1, 1) := by decide +kernel
theorem dX6_takeDraft_118 : decode cX6_takeDraft 118 = .ok (.aload_n 0, 1) := by decide +kernel
theorem dX6_takeDraft_119 : decode cX6_takeDraft 119 = .ok (.getfield 13, 3) := by decide +kernel
theorem dX6_takeDraft_122 : decode cX6_takeDraft 122 = .ok (.iconst 0, 1) := by decide +kernel
theorem dX6_takeDraft_123 : decode cX6_takeDraft 123 = .ok (.iaload, 1) := by decide +kernel
theorem dX6_takeDraft_124 : decode cX6_takeDraft 124 = .ok (.if_icmp .ge 12, 3) := by decide +kernel
theorem dX6_takeDraft_127 : decode cX6_takeDraft 127 = .ok (.aload_n 0, 1) := by decide +kernel
theorem dX6_takeDraft_128 : decode cX6_takeDraft 128 = .ok (.getfield 17, 3) := by decide +kernel
theorem dX6_takeDraft_131 : decode cX6_takeDraft 131 = .ok (.iload_n 1, 1) := by decide +kernel
theorem dX6_takeDraft_132 : decode cX6_takeDraft 132 = .ok (.iaload, 1) := by decide +kernel
theorem dX6_takeDraft_133 : decode cX6_takeDraft 133 = .ok (.goto 4, 3) := by decide +kernel
theorem dX6_takeDraft_136 : decode cX6_takeDraft 136 = .ok (.iconst 0, 1) := by decide +kernel
theorem dX6_takeDraft_137 : decode cX6_takeDraft 137 = .ok (.iastore, 1) := by decide +kernel
theorem dX6_takeDraft_138 : decode cX6_takeDraft 138 = .ok (.iinc 1 1, 3) := by decide +kernel
theorem dX6_takeDraft_141 : decode cX6_takeDraft 141 = .ok (.goto (-67), 3) := by decide +kernel
theorem dX6_takeDraft_144 : decode cX6_takeDraft 144 = .ok (.iconst 0, 1) := by decide +kernel
theorem dX6_takeDraft_145 : decode cX6_takeDraft 145 = .ok (.istore_n 1, 1) := by decide +kernel
theorem dX6_takeDraft_146 : decode cX6_takeDraft 146 = .ok (.iload_n 1, 1) := by decide +kernel
theorem dX6_takeDraft_147 : decode cX6_takeDraft 147 = .ok (.bipush 36, 2) := by decide +kernel
theorem dX6_takeDraft_149 : decode cX6_takeDraft 149 = .ok (.if_icmp .ge 39, 3) := by decide +kernel
theorem dX6_takeDraft_152 : decode cX6_takeDraft 152 = .ok (.aload_n 0, 1) := by decide +kernel
theorem dX6_takeDraft_153 : decode cX6_takeDraft 153 = .ok (.getfield 29, 3) := by decide +kernel
theorem dX6_takeDraft_156 : decode cX6_takeDraft 156 = .ok (.iload_n 1, 1) := by decide +kernel
theorem dX6_takeDraft_157 : decode cX6_takeDraft 157 = .ok (.aload_n 0, 1) := by decide +kernel
theorem dX6_takeDraft_158 : decode cX6_takeDraft 158 = .ok (.getfield 29, 3) := by decide +kernel
theorem dX6_takeDraft_161 : decode cX6_takeDraft 161 = .ok (.bipush 36, 2) := by decide +kernel
theorem dX6_takeDraft_163 : decode cX6_takeDraft 163 = .ok (.iload_n 1, 1) := by decide +kernel
theorem dX6_takeDraft_164 : decode cX6_takeDraft 164 = .ok (.iadd, 1) := by decide +kernel
theorem dX6_takeDraft_165 : decode cX6_takeDraft 165 = .ok (.iaload, 1) := by decide +kernel
theorem dX6_takeDraft_166 : decode cX6_takeDraft 166 = .ok (.iastore, 1) := by decide +kernel
theorem dX6_takeDraft_167 : decode cX6_takeDraft 167 = .ok (.aload_n 0, 1) := by decide +kernel
theorem dX6_takeDraft_168 : decode cX6_takeDraft 168 = .ok (.getfield 32, 3) := by decide +kernel
theorem dX6_takeDraft_171 : decode cX6_takeDraft 171 = .ok (.iload_n 1, 1) := by decide +kernel
theorem dX6_takeDraft_172 : decode cX6_takeDraft 172 = .ok (.aload_n 0, 1) := by decide +kernel
theorem dX6_takeDraft_173 : decode cX6_takeDraft 173 = .ok (.getfield 32, 3) := by decide +kernel
theorem dX6_takeDraft_176 : decode cX6_takeDraft 176 = .ok (.bipush 36, 2) := by decide +kernel
theorem dX6_takeDraft_178 : decode cX6_takeDraft 178 = .ok (.iload_n 1, 1) := by decide +kernel
theorem dX6_takeDraft_179 : decode cX6_takeDraft 179 = .ok (.iadd, 1) := by decide +kernel
theorem dX6_takeDraft_180 : decode cX6_takeDraft 180 = .ok (.iaload, 1) := by decide +kernel
theorem dX6_takeDraft_181 : decode cX6_takeDraft 181 = .ok (.iastore, 1) := by decide +kernel
theorem dX6_takeDraft_182 : decode cX6_takeDraft 182 = .ok (.iinc 1 1, 3) := by decide +kernel
theorem dX6_takeDraft_185 : decode cX6_takeDraft 185 = .ok (.goto (-39), 3) := by decide +kernel
theorem dX6_takeDraft_188 : decode cX6_takeDraft 188 = .ok (.iconst 0, 1) := by decide +kernel
theorem dX6_takeDraft_189 : decode cX6_takeDraft 189 = .ok (.istore_n 1, 1) := by decide +kernel
theorem dX6_takeDraft_190 : decode cX6_takeDraft 190 = .ok (.iload_n 1, 1) := by decide +kernel
theorem dX6_takeDraft_191 : decode cX6_takeDraft 191 = .ok (.bipush 6, 2) := by decide +kernel
theorem dX6_takeDraft_193 : decode cX6_takeDraft 193 = .ok (.if_icmp .ge 79, 3) := by decide +kernel
theorem dX6_takeDraft_196 : decode cX6_takeDraft 196 = .ok (.iconst 0, 1) := by decide +kernel
theorem dX6_takeDraft_197 : decode cX6_takeDraft 197 = .ok (.istore_n 2, 1) := by decide +kernel
theorem dX6_takeDraft_198 : decode cX6_takeDraft 198 = .ok (.iload_n 2, 1) := by decide +kernel
theorem dX6_takeDraft_199 : decode cX6_takeDraft 199 = .ok (.bipush 36, 2) := by decide +kernel
theorem dX6_takeDraft_201 : decode cX6_takeDraft 201 = .ok (.if_icmp .ge 65, 3) := by decide +kernel
theorem dX6_takeDraft_204 : decode cX6_takeDraft 204 = .ok (.aload_n 0, 1) := by decide +kernel
theorem dX6_takeDraft_205 : decode cX6_takeDraft 205 = .ok (.getfield 29, 3) := by decide +kernel
theorem dX6_takeDraft_208 : decode cX6_takeDraft 208 = .ok (.iload_n 2, 1) := by decide +kernel
theorem dX6_takeDraft_209 : decode cX6_takeDraft 209 = .ok (.bipush 6, 2) := by decide +kernel
theorem dX6_takeDraft_211 : decode cX6_takeDraft 211 = .ok (.idiv, 1) := by decide +kernel
theorem dX6_takeDraft_212 : decode cX6_takeDraft 212 = .ok (.bipush 6, 2) := by decide +kernel
theorem dX6_takeDraft_214 : decode cX6_takeDraft 214 = .ok (.imul, 1) := by decide +kernel
theorem dX6_takeDraft_215 : decode cX6_takeDraft 215 = .ok (.iload_n 1, 1) := by decide +kernel
theorem dX6_takeDraft_216 : decode cX6_takeDraft 216 = .ok (.iadd, 1) := by decide +kernel
theorem dX6_takeDraft_217 : decode cX6_takeDraft 217 = .ok (.iaload, 1) := by decide +kernel
theorem dX6_takeDraft_218 : decode cX6_takeDraft 218 = .ok (.aload_n 0, 1) := by decide +kernel
theorem dX6_takeDraft_219 : decode cX6_takeDraft 219 = .ok (.getfield 29, 3) := by decide +kernel
theorem dX6_takeDraft_222 : decode cX6_takeDraft 222 = .ok (.bipush 6, 2) := by decide +kernel
theorem dX6_takeDraft_224 : decode cX6_takeDraft 224 = .ok (.iload_n 1, 1) := by decide +kernel
theorem dX6_takeDraft_225 : decode cX6_takeDraft 225 = .ok (.imul, 1) := by decide +kernel
theorem dX6_takeDraft_226 : decode cX6_takeDraft 226 = .ok (.iload_n 2, 1) := by decide +kernel
theorem dX6_takeDraft_227 : decode cX6_takeDraft 227 = .ok (.bipush 6, 2) := by decide +kernel
theorem dX6_takeDraft_229 : decode cX6_takeDraft 229 = .ok (.irem, 1) := by decide +kernel
theorem dX6_takeDraft_230 : decode cX6_takeDraft 230 = .ok (.iadd, 1) := by decide +kernel
theorem dX6_takeDraft_231 : decode cX6_takeDraft 231 = .ok (.iaload, 1) := by decide +kernel
theorem dX6_takeDraft_232 : decode cX6_takeDraft 232 = .ok (.iadd, 1) := by decide +kernel
theorem dX6_takeDraft_233 : decode cX6_takeDraft 233 = .ok (.istore_n 3, 1) := by decide +kernel
theorem dX6_takeDraft_234 : decode cX6_takeDraft 234 = .ok (.aload_n 0, 1) := by decide +kernel
theorem dX6_takeDraft_235 : decode cX6_takeDraft 235 = .ok (.getfield 29, 3) := by decide +kernel
theorem dX6_takeDraft_238 : decode cX6_takeDraft 238 = .ok (.iload_n 2, 1) := by decide +kernel
theorem dX6_takeDraft_239 : decode cX6_takeDraft 239 = .ok (.iload_n 3, 1) := by decide +kernel
theorem dX6_takeDraft_240 : decode cX6_takeDraft 240 = .ok (.aload_n 0, 1) := by decide +kernel
theorem dX6_takeDraft_241 : decode cX6_takeDraft 241 = .ok (.getfield 29, 3) := by decide +kernel
theorem dX6_takeDraft_244 : decode cX6_takeDraft 244 = .ok (.iload_n 2, 1) := by decide +kernel
theorem dX6_takeDraft_245 : decode cX6_takeDraft 245 = .ok (.iaload, 1) := by decide +kernel
theorem dX6_takeDraft_246 : decode cX6_takeDraft 246 = .ok (.if_icmp .ge 7, 3) := by decide +kernel
theorem dX6_takeDraft_249 : decode cX6_takeDraft 249 = .ok (.iload_n 3, 1) := by decide +kernel
theorem dX6_takeDraft_250 : decode cX6_takeDraft 250 = .ok (.goto 9, 3) := by decide +kernel
theorem dX6_takeDraft_253 : decode cX6_takeDraft 253 = .ok (.aload_n 0, 1) := by decide +kernel
theorem dX6_takeDraft_254 : decode cX6_takeDraft 254 = .ok (.getfield 29, 3) := by decide +kernel
theorem dX6_takeDraft_257 : decode cX6_takeDraft 257 = .ok (.iload_n 2, 1) := by decide +kernel
theorem dX6_takeDraft_258 : decode cX6_takeDraft 258 = .ok (.iaload, 1) := by decide +kernel
theorem dX6_takeDraft_259 : decode cX6_takeDraft 259 = .ok (.iastore, 1) := by decide +kernel
theorem dX6_takeDraft_260 : decode cX6_takeDraft 260 = .ok (.iinc 2 1, 3) := by decide +kernel
theorem dX6_takeDraft_263 : decode cX6_takeDraft 263 = .ok (.goto (-65), 3) := by decide +kernel
theorem dX6_takeDraft_266 : decode cX6_takeDraft 266 = .ok (.iinc 1 1, 3) := by decide +kernel
theorem dX6_takeDraft_269 : decode cX6_takeDraft 269 = .ok (.goto (-79), 3) := by decide +kernel
theorem dX6_takeDraft_272 : decode cX6_takeDraft 272 = .ok (.aload_n 0, 1) := by decide +kernel
theorem dX6_takeDraft_273 : decode cX6_takeDraft 273 = .ok (.getfield 38, 3) := by decide +kernel
theorem dX6_takeDraft_276 : decode cX6_takeDraft 276 = .ok (.iconst 0, 1) := by decide +kernel
theorem dX6_takeDraft_277 : decode cX6_takeDraft 277 = .ok (.aload_n 0, 1) := by decide +kernel
theorem dX6_takeDraft_278 : decode cX6_takeDraft 278 = .ok (.getfield 13, 3) := by decide +kernel
theorem dX6_takeDraft_281 : decode cX6_takeDraft 281 = .ok (.iconst 0, 1) := by decide +kernel
theorem dX6_takeDraft_282 : decode cX6_takeDraft 282 = .ok (.iaload, 1) := by decide +kernel
theorem dX6_takeDraft_283 : decode cX6_takeDraft 283 = .ok (.ifCond .le 7, 3) := by decide +kernel
theorem dX6_takeDraft_286 : decode cX6_takeDraft 286 = .ok (.iconst 0, 1) := by decide +kernel
theorem dX6_takeDraft_287 : decode cX6_takeDraft 287 = .ok (.goto 5, 3) := by decide +kernel
theorem dX6_takeDraft_290 : decode cX6_takeDraft 290 = .ok (.bipush (-9), 2) := by decide +kernel
theorem dX6_takeDraft_292 : decode cX6_takeDraft 292 = .ok (.iastore, 1) := by decide +kernel
theorem dX6_takeDraft_293 : decode cX6_takeDraft 293 = .ok (.aload_n 0, 1) := by decide +kernel
theorem dX6_takeDraft_294 : decode cX6_takeDraft 294 = .ok (.getfield 38, 3) := by decide +kernel
theorem dX6_takeDraft_297 : decode cX6_takeDraft 297 = .ok (.iconst 2, 1) := by decide +kernel
theorem dX6_takeDraft_298 : decode cX6_takeDraft 298 = .ok (.aload_n 0, 1) := by decide +kernel
theorem dX6_takeDraft_299 : decode cX6_takeDraft 299 = .ok (.getfield 35, 3) := by decide +kernel
theorem dX6_takeDraft_302 : decode cX6_takeDraft 302 = .ok (.iconst 2, 1) := by decide +kernel
theorem dX6_takeDraft_303 : decode cX6_takeDraft 303 = .ok (.iaload, 1) := by decide +kernel
theorem dX6_takeDraft_304 : decode cX6_takeDraft 304 = .ok (.iastore, 1) := by decide +kernel
theorem dX6_takeDraft_305 : decode cX6_takeDraft 305 = .ok (.aload_n 0, 1) := by decide +kernel
theorem dX6_takeDraft_306 : decode cX6_takeDraft 306 = .ok (.getfield 38, 3) := by decide +kernel
theorem dX6_takeDraft_309 : decode cX6_takeDraft 309 = .ok (.bipush 28, 2) := by decide +kernel
theorem dX6_takeDraft_311 : decode cX6_takeDraft 311 = .ok (.iconst 0, 1) := by decide +kernel
theorem dX6_takeDraft_312 : decode cX6_takeDraft 312 = .ok (.iastore, 1) := by decide +kernel
theorem dX6_takeDraft_313 : decode cX6_takeDraft 313 = .ok (.aload_n 0, 1) := by decide +kernel
theorem dX6_takeDraft_314 : decode cX6_takeDraft 314 = .ok (.getfield 41, 3) := by decide +kernel
theorem dX6_takeDraft_317 : decode cX6_takeDraft 317 = .ok (.iconst 0, 1) := by decide +kernel
theorem dX6_takeDraft_318 : decode cX6_takeDraft 318 = .ok (.iconst 0, 1) := by decide +kernel
theorem dX6_takeDraft_319 : decode cX6_takeDraft 319 = .ok (.bastore, 1) := by decide +kernel
theorem dX6_takeDraft_320 : decode cX6_takeDraft 320 = .ok (.aload_n 0, 1) := by decide +kernel
theorem dX6_takeDraft_321 : decode cX6_takeDraft 321 = .ok (.getfield 41, 3) := by decide +kernel
theorem dX6_takeDraft_324 : decode cX6_takeDraft 324 = .ok (.iconst 1, 1) := by decide +kernel
theorem dX6_takeDraft_325 : decode cX6_takeDraft 325 = .ok (.iconst 0, 1) := by decide +kernel
theorem dX6_takeDraft_326 : decode cX6_takeDraft 326 = .ok (.bastore, 1) := by decide +kernel
theorem dX6_takeDraft_327 : decode cX6_takeDraft 327 = .ok (.return_, 1) := by decide +kernel
theorem dX6_land_0 : decode cX6_land 0 = .ok (.aload_n 0, 1) := by decide +kernel
theorem dX6_land_1 : decode cX6_land 1 = .ok (.iconst 0, 1) := by decide +kernel
theorem dX6_land_2 : decode cX6_land 2 = .ok (.putfield 62, 3) := by decide +kernel
theorem dX6_land_5 : decode cX6_land 5 = .ok (.aload_n 0, 1) := by decide +kernel
theorem dX6_land_6 : decode cX6_land 6 = .ok (.bipush (-9), 2) := by decide +kernel
theorem dX6_land_8 : decode cX6_land 8 = .ok (.putfield 78, 3) := by decide +kernel
theorem dX6_land_11 : decode cX6_land 11 = .ok (.aload_n 0, 1) := by decide +kernel
theorem dX6_land_12 : decode cX6_land 12 = .ok (.invokevirtual 48, 3) := by decide +kernel
theorem dX6_land_15 : decode cX6_land 15 = .ok (.iconst 0, 1) := by decide +kernel
theorem dX6_land_16 : decode cX6_land 16 = .ok (.istore_n 1, 1) := by decide +kernel
theorem dX6_land_17 : decode cX6_land 17 = .ok (.aload_n 0, 1) := by decide +kernel
theorem dX6_land_18 : decode cX6_land 18 = .ok (.invokevirtual 81, 3) := by decide +kernel
theorem dX6_land_21 : decode cX6_land 21 = .ok (.aload_n 0, 1) := by decide +kernel
theorem dX6_land_22 : decode cX6_land 22 = .ok (.getfield 78, 3) := by decide +kernel
theorem dX6_land_25 : decode cX6_land 25 = .ok (.bipush (-9), 2) := by decide +kernel
theorem dX6_land_27 : decode cX6_land 27 = .ok (.if_icmp .ne 64, 3) := by decide +kernel
theorem dX6_land_30 : decode cX6_land 30 = .ok (.aload_n 0, 1) := by decide +kernel
theorem dX6_land_31 : decode cX6_land 31 = .ok (.getfield 75, 3) := by decide +kernel
theorem dX6_land_34 : decode cX6_land 34 = .ok (.iconst 3, 1) := by decide +kernel
theorem dX6_land_35 : decode cX6_land 35 = .ok (.if_icmp .eq 56, 3) := by decide +kernel
theorem dX6_land_38 : decode cX6_land 38 = .ok (.aload_n 0, 1) := by decide +kernel
theorem dX6_land_39 : decode cX6_land 39 = .ok (.getfield 75, 3) := by decide +kernel
theorem dX6_land_42 : decode cX6_land 42 = .ok (.istore_n 2, 1) := by decide +kernel
theorem dX6_land_43 : decode cX6_land 43 = .ok (.aload_n 0, 1) := by decide +kernel
theorem dX6_land_44 : decode cX6_land 44 = .ok (.aload_n 0, 1) := by decide +kernel
theorem dX6_land_45 : decode cX6_land 45 = .ok (.iload_n 2, 1) := by decide +kernel
theorem dX6_land_46 : decode cX6_land 46 = .ok (.invokevirtual 99, 3) := by decide +kernel
theorem dX6_land_49 : decode cX6_land 49 = .ok (.invokevirtual 84, 3) := by decide +kernel
theorem dX6_land_52 : decode cX6_land 52 = .ok (.pop, 1) := by decide +kernel
theorem dX6_land_53 : decode cX6_land 53 = .ok (.aload_n 0, 1) := by decide +kernel
theorem dX6_land_54 : decode cX6_land 54 = .ok (.getfield 78, 3) := by decide +kernel
theorem dX6_land_57 : decode cX6_land 57 = .ok (.bipush (-9), 2) := by decide +kernel
theorem dX6_land_59 : decode cX6_land 59 = .ok (.if_icmp .ne 29, 3) := by decide +kernel
theorem dX6_land_62 : decode cX6_land 62 = .ok (.aload_n 0, 1) := by decide +kernel
theorem dX6_land_63 : decode cX6_land 63 = .ok (.iload_n 2, 1) := by decide +kernel
theorem dX6_land_64 : decode cX6_land 64 = .ok (.invokevirtual 103, 3) := by decide +kernel
theorem dX6_land_67 : decode cX6_land 67 = .ok (.aload_n 0, 1) := by decide +kernel
theorem dX6_land_68 : decode cX6_land 68 = .ok (.aload_n 0, 1) := by decide +kernel
theorem dX6_land_69 : decode cX6_land 69 = .ok (.getfield 75, 3) := by decide +kernel
theorem dX6_land_72 : decode cX6_land 72 = .ok (.iconst 2, 1) := by decide +kernel
theorem dX6_land_73 : decode cX6_land 73 = .ok (.if_icmp .ne 7, 3) := by decide +kernel
theorem dX6_land_76 : decode cX6_land 76 = .ok (.iconst 1, 1) := by decide +kernel
theorem dX6_land_77 : decode cX6_land 77 = .ok (.goto 4, 3) := by decide +kernel
theorem dX6_land_80 : decode cX6_land 80 = .ok (.iconst 0, 1) := by decide +kernel
theorem dX6_land_81 : decode cX6_land 81 = .ok (.invokevirtual 84, 3) := by decide +kernel
theorem dX6_land_84 : decode cX6_land 84 = .ok (.pop, 1) := by decide +kernel
theorem dX6_land_85 : decode cX6_land 85 = .ok (.iinc 1 1, 3) := by decide +kernel
theorem dX6_land_88 : decode cX6_land 88 = .ok (.goto (-67), 3) := by decide +kernel
theorem dX6_land_91 : decode cX6_land 91 = .ok (.aload_n 0, 1) := by decide +kernel
theorem dX6_land_92 : decode cX6_land 92 = .ok (.getfield 78, 3) := by decide +kernel
theorem dX6_land_95 : decode cX6_land 95 = .ok (.bipush (-9), 2) := by decide +kernel
theorem dX6_land_97 : decode cX6_land 97 = .ok (.if_icmp .eq 11, 3) := by decide +kernel
theorem dX6_land_100 : decode cX6_land 100 = .ok (.bipush (-10), 2) := by decide +kernel
theorem dX6_land_102 : decode cX6_land 102 = .ok (.aload_n 0, 1) := by decide +kernel
theorem dX6_land_103 : decode cX6_land 103 = .ok (.getfield 78, 3) := by decide +kernel
theorem dX6_land_106 : decode cX6_land 106 = .ok (.isub, 1) := by decide +kernel
theorem dX6_land_107 : decode cX6_land 107 = .ok (.ireturn, 1) := by decide +kernel
theorem dX6_land_108 : decode cX6_land 108 = .ok (.aload_n 0, 1) := by decide +kernel
theorem dX6_land_109 : decode cX6_land 109 = .ok (.invokevirtual 51, 3) := by decide +kernel
theorem dX6_land_112 : decode cX6_land 112 = .ok (.aload_n 0, 1) := by decide +kernel
theorem dX6_land_113 : decode cX6_land 113 = .ok (.iconst 0, 1) := by decide +kernel
theorem dX6_land_114 : decode cX6_land 114 = .ok (.putfield 58, 3) := by decide +kernel
theorem dX6_land_117 : decode cX6_land 117 = .ok (.iload_n 1, 1) := by decide +kernel
theorem dX6_land_118 : decode cX6_land 118 = .ok (.ireturn, 1) := by decide +kernel
theorem dX6_isVillage_0 : decode cX6_isVillage 0 = .ok (.iload_n 1, 1) := by decide +kernel
theorem dX6_isVillage_1 : decode cX6_isVillage 1 = .ok (.iconst 0, 1) := by decide +kernel
theorem dX6_isVillage_2 : decode cX6_isVillage 2 = .ok (.aload_n 0, 1) := by decide +kernel
theorem dX6_isVillage_3 : decode cX6_isVillage 3 = .ok (.getfield 13, 3) := by decide +kernel
theorem dX6_isVillage_6 : decode cX6_isVillage 6 = .ok (.iconst 0, 1) := by decide +kernel
theorem dX6_isVillage_7 : decode cX6_isVillage 7 = .ok (.iaload, 1) := by decide +kernel
theorem dX6_isVillage_8 : decode cX6_isVillage 8 = .ok (.iconst 1, 1) := by decide +kernel
theorem dX6_isVillage_9 : decode cX6_isVillage 9 = .ok (.isub, 1) := by decide +kernel
theorem dX6_isVillage_10 : decode cX6_isVillage 10 = .ok (.invokestatic 54, 3) := by decide +kernel
theorem dX6_isVillage_13 : decode cX6_isVillage 13 = .ok (.ireturn, 1) := by decide +kernel
theorem dX6_manyOf_0 : decode cX6_manyOf 0 = .ok (.iconst 0, 1) := by decide +kernel
theorem dX6_manyOf_1 : decode cX6_manyOf 1 = .ok (.istore_n 1, 1) := by decide +kernel
theorem dX6_manyOf_2 : decode cX6_manyOf 2 = .ok (.iconst 0, 1) := by decide +kernel
theorem dX6_manyOf_3 : decode cX6_manyOf 3 = .ok (.istore_n 2, 1) := by decide +kernel
theorem dX6_manyOf_4 : decode cX6_manyOf 4 = .ok (.iload_n 2, 1) := by decide +kernel
theorem dX6_manyOf_5 : decode cX6_manyOf 5 = .ok (.bipush 6, 2) := by decide +kernel
theorem dX6_manyOf_7 : decode cX6_manyOf 7 = .ok (.if_icmp .ge 17, 3) := by decide +kernel
theorem dX6_manyOf_10 : decode cX6_manyOf 10 = .ok (.iload_n 1, 1) := by decide +kernel
theorem dX6_manyOf_11 : decode cX6_manyOf 11 = .ok (.iload_n 0, 1) := by decide +kernel
theorem dX6_manyOf_12 : decode cX6_manyOf 12 = .ok (.iload_n 2, 1) := by decide +kernel
theorem dX6_manyOf_13 : decode cX6_manyOf 13 = .ok (.ishr, 1) := by decide +kernel
theorem dX6_manyOf_14 : decode cX6_manyOf 14 = .ok (.iconst 1, 1) := by decide +kernel
theorem dX6_manyOf_15 : decode cX6_manyOf 15 = .ok (.iand, 1) := by decide +kernel
theorem dX6_manyOf_16 : decode cX6_manyOf 16 = .ok (.iadd, 1) := by decide +kernel
theorem dX6_manyOf_17 : decode cX6_manyOf 17 = .ok (.istore_n 1, 1) := by decide +kernel
theorem dX6_manyOf_18 : decode cX6_manyOf 18 = .ok (.iinc 2 1, 3) := by decide +kernel
theorem dX6_manyOf_21 : decode cX6_manyOf 21 = .ok (.goto (-17), 3) := by decide +kernel
theorem dX6_manyOf_24 : decode cX6_manyOf 24 = .ok (.iload_n 1, 1) := by decide +kernel
theorem dX6_manyOf_25 : decode cX6_manyOf 25 = .ok (.ireturn, 1) := by decide +kernel
theorem dX6_spare_0 : decode cX6_spare 0 = .ok (.aload_n 0, 1) := by decide +kernel
theorem dX6_spare_1 : decode cX6_spare 1 = .ok (.getfield 38, 3) := by decide +kernel
theorem dX6_spare_4 : decode cX6_spare 4 = .ok (.iconst 4, 1) := by decide +kernel
theorem dX6_spare_5 : decode cX6_spare 5 = .ok (.iload_n 1, 1) := by decide +kernel
theorem dX6_spare_6 : decode cX6_spare 6 = .ok (.iadd, 1) := by decide +kernel
theorem dX6_spare_7 : decode cX6_spare 7 = .ok (.iaload, 1) := by decide +kernel
theorem dX6_spare_8 : decode cX6_spare 8 = .ok (.aload_n 0, 1) := by decide +kernel
theorem dX6_spare_9 : decode cX6_spare 9 = .ok (.getfield 38, 3) := by decide +kernel
theorem dX6_spare_12 : decode cX6_spare 12 = .ok (.bipush 10, 2) := by decide +kernel
theorem dX6_spare_14 : decode cX6_spare 14 = .ok (.iload_n 1, 1) := by decide +kernel
theorem dX6_spare_15 : decode cX6_spare 15 = .ok (.iadd, 1) := by decide +kernel
theorem dX6_spare_16 : decode cX6_spare 16 = .ok (.iaload, 1) := by decide +kernel
theorem dX6_spare_17 : decode cX6_spare 17 = .ok (.iadd, 1) := by decide +kernel
theorem dX6_spare_18 : decode cX6_spare 18 = .ok (.aload_n 0, 1) := by decide +kernel
theorem dX6_spare_19 : decode cX6_spare 19 = .ok (.getfield 20, 3) := by decide +kernel
theorem dX6_spare_22 : decode cX6_spare 22 = .ok (.iload_n 1, 1) := by decide +kernel
theorem dX6_spare_23 : decode cX6_spare 23 = .ok (.iaload, 1) := by decide +kernel
theorem dX6_spare_24 : decode cX6_spare 24 = .ok (.isub, 1) := by decide +kernel
theorem dX6_spare_25 : decode cX6_spare 25 = .ok (.istore_n 2, 1) := by decide +kernel
theorem dX6_spare_26 : decode cX6_spare 26 = .ok (.iload_n 2, 1) := by decide +kernel
theorem dX6_spare_27 : decode cX6_spare 27 = .ok (.aload_n 0, 1) := by decide +kernel
theorem dX6_spare_28 : decode cX6_spare 28 = .ok (.getfield 38, 3) := by decide +kernel
theorem dX6_spare_31 : decode cX6_spare 31 = .ok (.iconst 4, 1) := by decide +kernel
theorem dX6_spare_32 : decode cX6_spare 32 = .ok (.iload_n 1, 1) := by decide +kernel
theorem dX6_spare_33 : decode cX6_spare 33 = .ok (.iadd, 1) := by decide +kernel
theorem dX6_spare_34 : decode cX6_spare 34 = .ok (.iaload, 1) := by decide +kernel
theorem dX6_spare_35 : decode cX6_spare 35 = .ok (.if_icmp .ge 7, 3) := by decide +kernel
theorem dX6_spare_38 : decode cX6_spare 38 = .ok (.iload_n 2, 1) := by decide +kernel
theorem dX6_spare_39 : decode cX6_spare 39 = .ok (.goto 11, 3) := by decide +kernel
theorem dX6_spare_42 : decode cX6_spare 42 = .ok (.aload_n 0, 1) := by decide +kernel
theorem dX6_spare_43 : decode cX6_spare 43 = .ok (.getfield 38, 3) := by decide +kernel
theorem dX6_spare_46 : decode cX6_spare 46 = .ok (.iconst 4, 1) := by decide +kernel
theorem dX6_spare_47 : decode cX6_spare 47 = .ok (.iload_n 1, 1) := by decide +kernel
theorem dX6_spare_48 : decode cX6_spare 48 = .ok (.iadd, 1) := by decide +kernel
theorem dX6_spare_49 : decode cX6_spare 49 = .ok (.iaload, 1) := by decide +kernel
theorem dX6_spare_50 : decode cX6_spare 50 = .ok (.istore_n 3, 1) := by decide +kernel
theorem dX6_spare_51 : decode cX6_spare 51 = .ok (.aload_n 0, 1) := by decide +kernel
theorem dX6_spare_52 : decode cX6_spare 52 = .ok (.getfield 23, 3) := by decide +kernel
theorem dX6_spare_55 : decode cX6_spare 55 = .ok (.iload_n 1, 1) := by decide +kernel
theorem dX6_spare_56 : decode cX6_spare 56 = .ok (.iaload, 1) := by decide +kernel
theorem dX6_spare_57 : decode cX6_spare 57 = .ok (.iconst 1, 1) := by decide +kernel
theorem dX6_spare_58 : decode cX6_spare 58 = .ok (.if_icmp .eq 7, 3) := by decide +kernel
theorem dX6_spare_61 : decode cX6_spare 61 = .ok (.iload_n 3, 1) := by decide +kernel
theorem dX6_spare_62 : decode cX6_spare 62 = .ok (.ifCond .ge 7, 3) := by decide +kernel
theorem dX6_spare_65 : decode cX6_spare 65 = .ok (.iconst 0, 1) := by decide +kernel
theorem dX6_spare_66 : decode cX6_spare 66 = .ok (.goto 4, 3) := by decide +kernel
theorem dX6_spare_69 : decode cX6_spare 69 = .ok (.iload_n 3, 1) := by decide +kernel
theorem dX6_spare_70 : decode cX6_spare 70 = .ok (.ireturn, 1) := by decide +kernel
theorem dX6_village_0 : decode cX6_village 0 = .ok (.aload_n 0, 1) := by decide +kernel
theorem dX6_village_1 : decode cX6_village 1 = .ok (.iload_n 1, 1) := by decide +kernel
theorem dX6_village_2 : decode cX6_village 2 = .ok (.invokevirtual 107, 3) := by decide +kernel
theorem dX6_village_5 : decode cX6_village 5 = .ok (.ifCond .ne 5, 3) := by decide +kernel
theorem dX6_village_8 : decode cX6_village 8 = .ok (.iconst (-1), 1) := by decide +kernel
theorem dX6_village_9 : decode cX6_village 9 = .ok (.ireturn, 1) := by decide +kernel
theorem dX6_village_10 : decode cX6_village 10 = .ok (.iload_n 2, 1) := by decide +kernel
theorem dX6_village_11 : decode cX6_village 11 = .ok (.tableswitch 100 0 6 #[41, 50, 60, 67, 74, 84, 94], 41) := by decide +kernel
theorem dX6_village_52 : decode cX6_village 52 = .ok (.aload_n 0, 1) := by decide +kernel
theorem dX6_village_53 : decode cX6_village 53 = .ok (.getfield 38, 3) := by decide +kernel
theorem dX6_village_56 : decode cX6_village 56 = .ok (.iconst 4, 1) := by decide +kernel
theorem dX6_village_57 : decode cX6_village 57 = .ok (.iload_n 1, 1) := by decide +kernel
theorem dX6_village_58 : decode cX6_village 58 = .ok (.iadd, 1) := by decide +kernel
theorem dX6_village_59 : decode cX6_village 59 = .ok (.iaload, 1) := by decide +kernel
theorem dX6_village_60 : decode cX6_village 60 = .ok (.ireturn, 1) := by decide +kernel
theorem dX6_village_61 : decode cX6_village 61 = .ok (.aload_n 0, 1) := by decide +kernel
theorem dX6_village_62 : decode cX6_village 62 = .ok (.getfield 38, 3) := by decide +kernel
theorem dX6_village_65 : decode cX6_village 65 = .ok (.bipush 10, 2) := by decide +kernel
theorem dX6_village_67 : decode cX6_village 67 = .ok (.iload_n 1, 1) := by decide +kernel
theorem dX6_village_68 : decode cX6_village 68 = .ok (.iadd, 1) := by decide +kernel
theorem dX6_village_69 : decode cX6_village 69 = .ok (.iaload, 1) := by decide +kernel
theorem dX6_village_70 : decode cX6_village 70 = .ok (.ireturn, 1) := by decide +kernel
theorem dX6_village_71 : decode cX6_village 71 = .ok (.aload_n 0, 1) := by decide +kernel
theorem dX6_village_72 : decode cX6_village 72 = .ok (.getfield 20, 3) := by decide +kernel
theorem dX6_village_75 : decode cX6_village 75 = .ok (.iload_n 1, 1) := by decide +kernel
theorem dX6_village_76 : decode cX6_village 76 = .ok (.iaload, 1) := by decide +kernel
theorem dX6_village_77 : decode cX6_village 77 = .ok (.ireturn, 1) := by decide +kernel
theorem dX6_village_78 : decode cX6_village 78 = .ok (.aload_n 0, 1) := by decide +kernel
theorem dX6_village_79 : decode cX6_village 79 = .ok (.getfield 23, 3) := by decide +kernel
theorem dX6_village_82 : decode cX6_village 82 = .ok (.iload_n 1, 1) := by decide +kernel
theorem dX6_village_83 : decode cX6_village 83 = .ok (.iaload, 1) := by decide +kernel
theorem dX6_village_84 : decode cX6_village 84 = .ok (.ireturn, 1) := by decide +kernel
theorem dX6_village_85 : decode cX6_village 85 = .ok (.aload_n 0, 1) := by decide +kernel
theorem dX6_village_86 : decode cX6_village 86 = .ok (.getfield 38, 3) := by decide +kernel
theorem dX6_village_89 : decode cX6_village 89 = .ok (.bipush 16, 2) := by decide +kernel
theorem dX6_village_91 : decode cX6_village 91 = .ok (.iload_n 1, 1) := by decide +kernel
theorem dX6_village_92 : decode cX6_village 92 = .ok (.iadd, 1) := by decide +kernel
theorem dX6_village_93 : decode cX6_village 93 = .ok (.iaload, 1) := by decide +kernel
theorem dX6_village_94 : decode cX6_village 94 = .ok (.ireturn, 1) := by decide +kernel
theorem dX6_village_95 : decode cX6_village 95 = .ok (.aload_n 0, 1) := by decide +kernel
theorem dX6_village_96 : decode cX6_village 96 = .ok (.getfield 38, 3) := by decide +kernel
theorem dX6_village_99 : decode cX6_village 99 = .ok (.bipush 22, 2) := by decide +kernel
theorem dX6_village_101 : decode cX6_village 101 = .ok (.iload_n 1, 1) := by decide +kernel
theorem dX6_village_102 : decode cX6_village 102 = .ok (.iadd, 1) := by decide +kernel
theorem dX6_village_103 : decode cX6_village 103 = .ok (.iaload, 1) := by decide +kernel
theorem dX6_village_104 : decode cX6_village 104 = .ok (.ireturn, 1) := by decide +kernel
theorem dX6_village_105 : decode cX6_village 105 = .ok (.aload_n 0, 1) := by decide +kernel
theorem dX6_village_106 : decode cX6_village 106 = .ok (.iload_n 1, 1) := by decide +kernel
theorem dX6_village_107 : decode cX6_village 107 = .ok (.invokevirtual 110, 3) := by decide +kernel
theorem dX6_village_110 : decode cX6_village 110 = .ok (.ireturn, 1) := by decide +kernel
theorem dX6_village_111 : decode cX6_village 111 = .ok (.iconst (-1), 1) := by decide +kernel
theorem dX6_village_112 : decode cX6_village 112 = .ok (.ireturn, 1) := by decide +kernel
theorem dX6_far_0 : decode cX6_far 0 = .ok (.aload_n 0, 1) := by decide +kernel
theorem dX6_far_1 : decode cX6_far 1 = .ok (.iload_n 1, 1) := by decide +kernel
theorem dX6_far_2 : decode cX6_far 2 = .ok (.invokevirtual 107, 3) := by decide +kernel
theorem dX6_far_5 : decode cX6_far 5 = .ok (.ifCond .eq 11, 3) := by decide +kernel
theorem dX6_far_8 : decode cX6_far 8 = .ok (.aload_n 0, 1) := by decide +kernel
theorem dX6_far_9 : decode cX6_far 9 = .ok (.iload_n 2, 1) := by decide +kernel
theorem dX6_far_10 : decode cX6_far 10 = .ok (.invokevirtual 107, 3) := by decide +kernel
theorem dX6_far_13 : decode cX6_far 13 = .ok (.ifCond .ne 5, 3) := by decide +kernel
theorem dX6_far_16 : decode cX6_far 16 = .ok (.iconst (-1), 1) := by decide +kernel
theorem dX6_far_17 : decode cX6_far 17 = .ok (.ireturn, 1) := by decide +kernel
theorem dX6_far_18 : decode cX6_far 18 = .ok (.aload_n 0, 1) := by decide +kernel
theorem dX6_far_19 : decode cX6_far 19 = .ok (.getfield 29, 3) := by decide +kernel
theorem dX6_far_22 : decode cX6_far 22 = .ok (.bipush 6, 2) := by decide +kernel
theorem dX6_far_24 : decode cX6_far 24 = .ok (.iload_n 1, 1) := by decide +kernel
theorem dX6_far_25 : decode cX6_far 25 = .ok (.imul, 1) := by decide +kernel
theorem dX6_far_26 : decode cX6_far 26 = .ok (.iload_n 2, 1) := by decide +kernel
theorem dX6_far_27 : decode cX6_far 27 = .ok (.iadd, 1) := by decide +kernel
theorem dX6_far_28 : decode cX6_far 28 = .ok (.iaload, 1) := by decide +kernel
theorem dX6_far_29 : decode cX6_far 29 = .ok (.sipush 1000, 3) := by decide +kernel
theorem dX6_far_32 : decode cX6_far 32 = .ok (.if_icmp .lt 8, 3) := by decide +kernel
theorem dX6_far_35 : decode cX6_far 35 = .ok (.bipush (-9), 2) := by decide +kernel
theorem dX6_far_37 : decode cX6_far 37 = .ok (.goto 14, 3) := by decide +kernel
theorem dX6_far_40 : decode cX6_far 40 = .ok (.aload_n 0, 1) := by decide +kernel
theorem dX6_far_41 : decode cX6_far 41 = .ok (.getfield 29, 3) := by decide +kernel
theorem dX6_far_44 : decode cX6_far 44 = .ok (.bipush 6, 2) := by decide +kernel
theorem dX6_far_46 : decode cX6_far 46 = .ok (.iload_n 1, 1) := by decide +kernel
theorem dX6_far_47 : decode cX6_far 47 = .ok (.imul, 1) := by decide +kernel
theorem dX6_far_48 : decode cX6_far 48 = .ok (.iload_n 2, 1) := by decide +kernel
theorem dX6_far_49 : decode cX6_far 49 = .ok (.iadd, 1) := by decide +kernel
theorem dX6_far_50 : decode cX6_far 50 = .ok (.iaload, 1) := by decide +kernel
theorem dX6_far_51 : decode cX6_far 51 = .ok (.ireturn, 1) := by decide +kernel
theorem dX6_owes_0 : decode cX6_owes 0 = .ok (.aload_n 0, 1) := by decide +kernel
theorem dX6_owes_1 : decode cX6_owes 1 = .ok (.iload_n 1, 1) := by decide +kernel
theorem dX6_owes_2 : decode cX6_owes 2 = .ok (.invokevirtual 107, 3) := by decide +kernel
theorem dX6_owes_5 : decode cX6_owes 5 = .ok (.ifCond .eq 30, 3) := by decide +kernel
theorem dX6_owes_8 : decode cX6_owes 8 = .ok (.aload_n 0, 1) := by decide +kernel
theorem dX6_owes_9 : decode cX6_owes 9 = .ok (.iload_n 2, 1) := by decide +kernel
theorem dX6_owes_10 : decode cX6_owes 10 = .ok (.invokevirtual 107, 3) := by decide +kernel
theorem dX6_owes_13 : decode cX6_owes 13 = .ok (.ifCond .eq 22, 3) := by decide +kernel
theorem dX6_owes_16 : decode cX6_owes 16 = .ok (.iload_n 1, 1) := by decide +kernel
theorem dX6_owes_17 : decode cX6_owes 17 = .ok (.iload_n 2, 1) := by decide +kernel
theorem dX6_owes_18 : decode cX6_owes 18 = .ok (.if_icmp .eq 17, 3) := by decide +kernel
theorem dX6_owes_21 : decode cX6_owes 21 = .ok (.aload_n 0, 1) := by decide +kernel
theorem dX6_owes_22 : decode cX6_owes 22 = .ok (.getfield 32, 3) := by decide +kernel
theorem dX6_owes_25 : decode cX6_owes 25 = .ok (.bipush 6, 2) := by decide +kernel
theorem dX6_owes_27 : decode cX6_owes 27 = .ok (.iload_n 1, 1) := by decide +kernel
theorem dX6_owes_28 : decode cX6_owes 28 = .ok (.imul, 1) := by decide +kernel
theorem dX6_owes_29 : decode cX6_owes 29 = .ok (.iload_n 2, 1) := by decide +kernel
theorem dX6_owes_30 : decode cX6_owes 30 = .ok (.iadd, 1) := by decide +kernel
theorem dX6_owes_31 : decode cX6_owes 31 = .ok (.iaload, 1) := by decide +kernel
theorem dX6_owes_32 : decode cX6_owes 32 = .ok (.goto 4, 3) := by decide +kernel
theorem dX6_owes_35 : decode cX6_owes 35 = .ok (.iconst (-1), 1) := by decide +kernel
theorem dX6_owes_36 : decode cX6_owes 36 = .ok (.ireturn, 1) := by decide +kernel
theorem dX6_know_0 : decode cX6_know 0 = .ok (.aload_n 0, 1) := by decide +kernel
theorem dX6_know_1 : decode cX6_know 1 = .ok (.getfield 38, 3) := by decide +kernel
theorem dX6_know_4 : decode cX6_know 4 = .ok (.bipush 28, 2) := by decide +kernel
theorem dX6_know_6 : decode cX6_know 6 = .ok (.iaload, 1) := by decide +kernel
theorem dX6_know_7 : decode cX6_know 7 = .ok (.bipush 10, 2) := by decide +kernel
theorem dX6_know_9 : decode cX6_know 9 = .ok (.if_icmp .ne 47, 3) := by decide +kernel
theorem dX6_know_12 : decode cX6_know 12 = .ok (.iconst 0, 1) := by decide +kernel
theorem dX6_know_13 : decode cX6_know 13 = .ok (.istore_n 1, 1) := by decide +kernel
theorem dX6_know_14 : decode cX6_know 14 = .ok (.iload_n 1, 1) := by decide +kernel
theorem dX6_know_15 : decode cX6_know 15 = .ok (.sipush 252, 3) := by decide +kernel
theorem dX6_know_18 : decode cX6_know 18 = .ok (.if_icmp .ge 27, 3) := by decide +kernel
theorem dX6_know_21 : decode cX6_know 21 = .ok (.aload_n 0, 1) := by decide +kernel
theorem dX6_know_22 : decode cX6_know 22 = .ok (.getfield 38, 3) := by decide +kernel
theorem dX6_know_25 : decode cX6_know 25 = .ok (.bipush 29, 2) := by decide +kernel
theorem dX6_know_27 : decode cX6_know 27 = .ok (.iload_n 1, 1) := by decide +kernel
theorem dX6_know_28 : decode cX6_know 28 = .ok (.iadd, 1) := by decide +kernel
theorem dX6_know_29 : decode cX6_know 29 = .ok (.aload_n 0, 1) := by decide +kernel
theorem dX6_know_30 : decode cX6_know 30 = .ok (.getfield 38, 3) := by decide +kernel
theorem dX6_know_33 : decode cX6_know 33 = .ok (.bipush 57, 2) := by decide +kernel
theorem dX6_know_35 : decode cX6_know 35 = .ok (.iload_n 1, 1) := by decide +kernel
theorem dX6_know_36 : decode cX6_know 36 = .ok (.iadd, 1) := by decide +kernel
theorem dX6_know_37 : decode cX6_know 37 = .ok (.iaload, 1) := by decide +kernel
theorem dX6_know_38 : decode cX6_know 38 = .ok (.iastore, 1) := by decide +kernel
theorem dX6_know_39 : decode cX6_know 39 = .ok (.iinc 1 1, 3) := by decide +kernel
theorem dX6_know_42 : decode cX6_know 42 = .ok (.goto (-28), 3) := by decide +kernel
theorem dX6_know_45 : decode cX6_know 45 = .ok (.aload_n 0, 1) := by decide +kernel
theorem dX6_know_46 : decode cX6_know 46 = .ok (.getfield 38, 3) := by decide +kernel
theorem dX6_know_49 : decode cX6_know 49 = .ok (.bipush 28, 2) := by decide +kernel
theorem dX6_know_51 : decode cX6_know 51 = .ok (.dup2, 1) := by decide +kernel
theorem dX6_know_52 : decode cX6_know 52 = .ok (.iaload, 1) := by decide +kernel
theorem dX6_know_53 : decode cX6_know 53 = .ok (.iconst 1, 1) := by decide +kernel
theorem dX6_know_54 : decode cX6_know 54 = .ok (.isub, 1) := by decide +kernel
theorem dX6_know_55 : decode cX6_know 55 = .ok (.iastore, 1) := by decide +kernel
theorem dX6_know_56 : decode cX6_know 56 = .ok (.iconst 0, 1) := by decide +kernel
theorem dX6_know_57 : decode cX6_know 57 = .ok (.istore_n 1, 1) := by decide +kernel
theorem dX6_know_58 : decode cX6_know 58 = .ok (.iload_n 1, 1) := by decide +kernel
theorem dX6_know_59 : decode cX6_know 59 = .ok (.bipush 28, 2) := by decide +kernel
theorem dX6_know_61 : decode cX6_know 61 = .ok (.if_icmp .ge 35, 3) := by decide +kernel
theorem dX6_know_64 : decode cX6_know 64 = .ok (.aload_n 0, 1) := by decide +kernel
theorem dX6_know_65 : decode cX6_know 65 = .ok (.getfield 38, 3) := by decide +kernel
theorem dX6_know_68 : decode cX6_know 68 = .ok (.bipush 29, 2) := by decide +kernel
theorem dX6_know_70 : decode cX6_know 70 = .ok (.bipush 28, 2) := by decide +kernel
theorem dX6_know_72 : decode cX6_know 72 = .ok (.aload_n 0, 1) := by decide +kernel
theorem dX6_know_73 : decode cX6_know 73 = .ok (.getfield 38, 3) := by decide +kernel
theorem dX6_know_76 : decode cX6_know 76 = .ok (.bipush 28, 2) := by decide +kernel
theorem dX6_know_78 : decode cX6_know 78 = .ok (.iaload, 1) := by decide +kernel
theorem dX6_know_79 : decode cX6_know 79 = .ok (.imul, 1) := by decide +kernel
theorem dX6_know_80 : decode cX6_know 80 = .ok (.iadd, 1) := by decide +kernel
theorem dX6_know_81 : decode cX6_know 81 = .ok (.iload_n 1, 1) := by decide +kernel
theorem dX6_know_82 : decode cX6_know 82 = .ok (.iadd, 1) := by decide +kernel
theorem dX6_know_83 : decode cX6_know 83 = .ok (.aload_n 0, 1) := by decide +kernel
theorem dX6_know_84 : decode cX6_know 84 = .ok (.getfield 38, 3) := by decide +kernel
theorem dX6_know_87 : decode cX6_know 87 = .ok (.iload_n 1, 1) := by decide +kernel
theorem dX6_know_88 : decode cX6_know 88 = .ok (.iaload, 1) := by decide +kernel
theorem dX6_know_89 : decode cX6_know 89 = .ok (.iastore, 1) := by decide +kernel
theorem dX6_know_90 : decode cX6_know 90 = .ok (.iinc 1 1, 3) := by decide +kernel
theorem dX6_know_93 : decode cX6_know 93 = .ok (.goto (-35), 3) := by decide +kernel
theorem dX6_know_96 : decode cX6_know 96 = .ok (.aload_n 0, 1) := by decide +kernel
theorem dX6_know_97 : decode cX6_know 97 = .ok (.getfield 38, 3) := by decide +kernel
theorem dX6_know_100 : decode cX6_know 100 = .ok (.bipush 28, 2) := by decide +kernel
theorem dX6_know_102 : decode cX6_know 102 = .ok (.dup2, 1) := by decide +kernel
theorem dX6_know_103 : decode cX6_know 103 = .ok (.iaload, 1) := by decide +kernel
theorem dX6_know_104 : decode cX6_know 104 = .ok (.iconst 1, 1) := by decide +kernel
theorem dX6_know_105 : decode cX6_know 105 = .ok (.iadd, 1) := by decide +kernel
theorem dX6_know_106 : decode cX6_know 106 = .ok (.iastore, 1) := by decide +kernel
theorem dX6_know_107 : decode cX6_know 107 = .ok (.return_, 1) := by decide +kernel
theorem dX6_pass_0 : decode cX6_pass 0 = .ok (.iconst 0, 1) := by decide +kernel
theorem dX6_pass_1 : decode cX6_pass 1 = .ok (.istore_n 2, 1) := by decide +kernel
theorem dX6_pass_2 : decode cX6_pass 2 = .ok (.iload_n 2, 1) := by decide +kernel
theorem dX6_pass_3 : decode cX6_pass 3 = .ok (.iload_n 1, 1) := by decide +kernel
theorem dX6_pass_4 : decode cX6_pass 4 = .ok (.if_icmp .ge 107, 3) := by decide +kernel
theorem dX6_pass_7 : decode cX6_pass 7 = .ok (.aload_n 0, 1) := by decide +kernel
theorem dX6_pass_8 : decode cX6_pass 8 = .ok (.getfield 38, 3) := by decide +kernel
theorem dX6_pass_11 : decode cX6_pass 11 = .ok (.iconst 2, 1) := by decide +kernel
theorem dX6_pass_12 : decode cX6_pass 12 = .ok (.iaload, 1) := by decide +kernel
theorem dX6_pass_13 : decode cX6_pass 13 = .ok (.aload_n 0, 1) := by decide +kernel
theorem dX6_pass_14 : decode cX6_pass 14 = .ok (.getfield 35, 3) := by decide +kernel
theorem dX6_pass_17 : decode cX6_pass 17 = .ok (.iconst 0, 1) := by decide +kernel
theorem dX6_pass_18 : decode cX6_pass 18 = .ok (.iaload, 1) := by decide +kernel
theorem dX6_pass_19 : decode cX6_pass 19 = .ok (.if_icmp .ge 12, 3) := by decide +kernel
theorem dX6_pass_22 : decode cX6_pass 22 = .ok (.aload_n 0, 1) := by decide +kernel
theorem dX6_pass_23 : decode cX6_pass 23 = .ok (.getfield 38, 3) := by decide +kernel
theorem dX6_pass_26 : decode cX6_pass 26 = .ok (.iconst 2, 1) := by decide +kernel
theorem dX6_pass_27 : decode cX6_pass 27 = .ok (.iaload, 1) := by decide +kernel
theorem dX6_pass_28 : decode cX6_pass 28 = .ok (.goto 9, 3) := by decide +kernel
theorem dX6_pass_31 : decode cX6_pass 31 = .ok (.aload_n 0, 1) := by decide +kernel
theorem dX6_pass_32 : decode cX6_pass 32 = .ok (.getfield 35, 3) := by decide +kernel
theorem dX6_pass_35 : decode cX6_pass 35 = .ok (.iconst 0, 1) := by decide +kernel
theorem dX6_pass_36 : decode cX6_pass 36 = .ok (.iaload, 1) := by decide +kernel
theorem dX6_pass_37 : decode cX6_pass 37 = .ok (.istore_n 3, 1) := by decide +kernel
theorem dX6_pass_38 : decode cX6_pass 38 = .ok (.aload_n 0, 1) := by decide +kernel
theorem dX6_pass_39 : decode cX6_pass 39 = .ok (.getfield 38, 3) := by decide +kernel
theorem dX6_pass_42 : decode cX6_pass 42 = .ok (.iconst 2, 1) := by decide +kernel
theorem dX6_pass_43 : decode cX6_pass 43 = .ok (.dup2, 1) := by decide +kernel
theorem dX6_pass_44 : decode cX6_pass 44 = .ok (.iaload, 1) := by decide +kernel
theorem dX6_pass_45 : decode cX6_pass 45 = .ok (.iload_n 3, 1) := by decide +kernel
theorem dX6_pass_46 : decode cX6_pass 46 = .ok (.isub, 1) := by decide +kernel
theorem dX6_pass_47 : decode cX6_pass 47 = .ok (.iastore, 1) := by decide +kernel
theorem dX6_pass_48 : decode cX6_pass 48 = .ok (.aload_n 0, 1) := by decide +kernel
theorem dX6_pass_49 : decode cX6_pass 49 = .ok (.getfield 38, 3) := by decide +kernel
theorem dX6_pass_52 : decode cX6_pass 52 = .ok (.iconst 3, 1) := by decide +kernel
theorem dX6_pass_53 : decode cX6_pass 53 = .ok (.dup2, 1) := by decide +kernel
theorem dX6_pass_54 : decode cX6_pass 54 = .ok (.iaload, 1) := by decide +kernel
theorem dX6_pass_55 : decode cX6_pass 55 = .ok (.aload_n 0, 1) := by decide +kernel
theorem dX6_pass_56 : decode cX6_pass 56 = .ok (.getfield 35, 3) := by decide +kernel
theorem dX6_pass_59 : decode cX6_pass 59 = .ok (.iconst 0, 1) := by decide +kernel
theorem dX6_pass_60 : decode cX6_pass 60 = .ok (.iaload, 1) := by decide +kernel
theorem dX6_pass_61 : decode cX6_pass 61 = .ok (.iload_n 3, 1) := by decide +kernel
theorem dX6_pass_62 : decode cX6_pass 62 = .ok (.isub, 1) := by decide +kernel
theorem dX6_pass_63 : decode cX6_pass 63 = .ok (.iadd, 1) := by decide +kernel
theorem dX6_pass_64 : decode cX6_pass 64 = .ok (.iastore, 1) := by decide +kernel
theorem dX6_pass_65 : decode cX6_pass 65 = .ok (.aload_n 0, 1) := by decide +kernel
theorem dX6_pass_66 : decode cX6_pass 66 = .ok (.getfield 38, 3) := by decide +kernel
theorem dX6_pass_69 : decode cX6_pass 69 = .ok (.iconst 3, 1) := by decide +kernel
theorem dX6_pass_70 : decode cX6_pass 70 = .ok (.aload_n 0, 1) := by decide +kernel
theorem dX6_pass_71 : decode cX6_pass 71 = .ok (.getfield 38, 3) := by decide +kernel
theorem dX6_pass_74 : decode cX6_pass 74 = .ok (.iconst 3, 1) := by decide +kernel
theorem dX6_pass_75 : decode cX6_pass 75 = .ok (.iaload, 1) := by decide +kernel
theorem dX6_pass_76 : decode cX6_pass 76 = .ok (.sipush 9999, 3) := by decide +kernel
theorem dX6_pass_79 : decode cX6_pass 79 = .ok (.if_icmp .le 9, 3) := by decide +kernel
theorem dX6_pass_82 : decode cX6_pass 82 = .ok (.sipush 9999, 3) := by decide +kernel
theorem dX6_pass_85 : decode cX6_pass 85 = .ok (.goto 9, 3) := by decide +kernel
theorem dX6_pass_88 : decode cX6_pass 88 = .ok (.aload_n 0, 1) := by decide +kernel
theorem dX6_pass_89 : decode cX6_pass 89 = .ok (.getfield 38, 3) := by decide +kernel
theorem dX6_pass_92 : decode cX6_pass 92 = .ok (.iconst 3, 1) := by decide +kernel
theorem dX6_pass_93 : decode cX6_pass 93 = .ok (.iaload, 1) := by decide +kernel
theorem dX6_pass_94 : decode cX6_pass 94 = .ok (.iastore, 1) := by decide +kernel
theorem dX6_pass_95 : decode cX6_pass 95 = .ok (.aload_n 0, 1) := by decide +kernel
theorem dX6_pass_96 : decode cX6_pass 96 = .ok (.getfield 38, 3) := by decide +kernel
theorem dX6_pass_99 : decode cX6_pass 99 = .ok (.iconst 1, 1) := by decide +kernel
theorem dX6_pass_100 : decode cX6_pass 100 = .ok (.dup2, 1) := by decide +kernel
theorem dX6_pass_101 : decode cX6_pass 101 = .ok (.iaload, 1) := by decide +kernel
theorem dX6_pass_102 : decode cX6_pass 102 = .ok (.iconst 1, 1) := by decide +kernel
theorem dX6_pass_103 : decode cX6_pass 103 = .ok (.iadd, 1) := by decide +kernel
theorem dX6_pass_104 : decode cX6_pass 104 = .ok (.iastore, 1) := by decide +kernel
theorem dX6_pass_105 : decode cX6_pass 105 = .ok (.iinc 2 1, 3) := by decide +kernel
theorem dX6_pass_108 : decode cX6_pass 108 = .ok (.goto (-106), 3) := by decide +kernel
theorem dX6_pass_111 : decode cX6_pass 111 = .ok (.return_, 1) := by decide +kernel
theorem dX6_goes_0 : decode cX6_goes 0 = .ok (.aload_n 0, 1) := by decide +kernel
theorem dX6_goes_1 : decode cX6_goes 1 = .ok (.iload_n 1, 1) := by decide +kernel
theorem dX6_goes_2 : decode cX6_goes 2 = .ok (.invokevirtual 107, 3) := by decide +kernel
theorem dX6_goes_5 : decode cX6_goes 5 = .ok (.ifCond .ne 5, 3) := by decide +kernel
theorem dX6_goes_8 : decode cX6_goes 8 = .ok (.iconst (-1), 1) := by decide +kernel
theorem dX6_goes_9 : decode cX6_goes 9 = .ok (.ireturn, 1) := by decide +kernel
theorem dX6_goes_10 : decode cX6_goes 10 = .ok (.aload_n 0, 1) := by decide +kernel
theorem dX6_goes_11 : decode cX6_goes 11 = .ok (.getfield 29, 3) := by decide +kernel
theorem dX6_goes_14 : decode cX6_goes 14 = .ok (.bipush 6, 2) := by decide +kernel
theorem dX6_goes_16 : decode cX6_goes 16 = .ok (.aload_n 0, 1) := by decide +kernel
theorem dX6_goes_17 : decode cX6_goes 17 = .ok (.getfield 38, 3) := by decide +kernel
theorem dX6_goes_20 : decode cX6_goes 20 = .ok (.iconst 0, 1) := by decide +kernel
theorem dX6_goes_21 : decode cX6_goes 21 = .ok (.iaload, 1) := by decide +kernel
theorem dX6_goes_22 : decode cX6_goes 22 = .ok (.imul, 1) := by decide +kernel
theorem dX6_goes_23 : decode cX6_goes 23 = .ok (.iload_n 1, 1) := by decide +kernel
theorem dX6_goes_24 : decode cX6_goes 24 = .ok (.iadd, 1) := by decide +kernel
theorem dX6_goes_25 : decode cX6_goes 25 = .ok (.iaload, 1) := by decide +kernel
theorem dX6_goes_26 : decode cX6_goes 26 = .ok (.istore_n 2, 1) := by decide +kernel
theorem dX6_goes_27 : decode cX6_goes 27 = .ok (.iload_n 1, 1) := by decide +kernel
theorem dX6_goes_28 : decode cX6_goes 28 = .ok (.aload_n 0, 1) := by decide +kernel
theorem dX6_goes_29 : decode cX6_goes 29 = .ok (.getfield 38, 3) := by decide +kernel
theorem dX6_goes_32 : decode cX6_goes 32 = .ok (.iconst 0, 1) := by decide +kernel
theorem dX6_goes_33 : decode cX6_goes 33 = .ok (.iaload, 1) := by decide +kernel
theorem dX6_goes_34 : decode cX6_goes 34 = .ok (.if_icmp .eq 24, 3) := by decide +kernel
theorem dX6_goes_37 : decode cX6_goes 37 = .ok (.iload_n 2, 1) := by decide +kernel
theorem dX6_goes_38 : decode cX6_goes 38 = .ok (.sipush 1000, 3) := by decide +kernel
theorem dX6_goes_41 : decode cX6_goes 41 = .ok (.if_icmp .ge 17, 3) := by decide +kernel
theorem dX6_goes_44 : decode cX6_goes 44 = .ok (.aload_n 0, 1) := by decide +kernel
theorem dX6_goes_45 : decode cX6_goes 45 = .ok (.getfield 38, 3) := by decide +kernel
theorem dX6_goes_48 : decode cX6_goes 48 = .ok (.iconst 1, 1) := by decide +kernel
theorem dX6_goes_49 : decode cX6_goes 49 = .ok (.iaload, 1) := by decide +kernel
theorem dX6_goes_50 : decode cX6_goes 50 = .ok (.iload_n 2, 1) := by decide +kernel
theorem dX6_goes_51 : decode cX6_goes 51 = .ok (.iadd, 1) := by decide +kernel
theorem dX6_goes_52 : decode cX6_goes 52 = .ok (.sipush 999, 3) := by decide +kernel
theorem dX6_goes_55 : decode cX6_goes 55 = .ok (.if_icmp .le 6, 3) := by decide +kernel
theorem dX6_goes_58 : decode cX6_goes 58 = .ok (.bipush (-2), 2) := by decide +kernel
theorem dX6_goes_60 : decode cX6_goes 60 = .ok (.ireturn, 1) := by decide +kernel
theorem dX6_goes_61 : decode cX6_goes 61 = .ok (.aload_n 0, 1) := by decide +kernel
theorem dX6_goes_62 : decode cX6_goes 62 = .ok (.invokevirtual 113, 3) := by decide +kernel
theorem dX6_goes_65 : decode cX6_goes 65 = .ok (.aload_n 0, 1) := by decide +kernel
theorem dX6_goes_66 : decode cX6_goes 66 = .ok (.iload_n 2, 1) := by decide +kernel
theorem dX6_goes_67 : decode cX6_goes 67 = .ok (.invokevirtual 116, 3) := by decide +kernel
theorem dX6_goes_70 : decode cX6_goes 70 = .ok (.aload_n 0, 1) := by decide +kernel
theorem dX6_goes_71 : decode cX6_goes 71 = .ok (.getfield 38, 3) := by decide +kernel
theorem dX6_goes_74 : decode cX6_goes 74 = .ok (.iconst 0, 1) := by decide +kernel
theorem dX6_goes_75 : decode cX6_goes 75 = .ok (.iload_n 1, 1) := by decide +kernel
theorem dX6_goes_76 : decode cX6_goes 76 = .ok (.iastore, 1) := by decide +kernel
theorem dX6_goes_77 : decode cX6_goes 77 = .ok (.aload_n 0, 1) := by decide +kernel
theorem dX6_goes_78 : decode cX6_goes 78 = .ok (.getfield 38, 3) := by decide +kernel
theorem dX6_goes_81 : decode cX6_goes 81 = .ok (.iconst 1, 1) := by decide +kernel
theorem dX6_goes_82 : decode cX6_goes 82 = .ok (.iaload, 1) := by decide +kernel
theorem dX6_goes_83 : decode cX6_goes 83 = .ok (.ireturn, 1) := by decide +kernel
theorem dX6_stays_0 : decode cX6_stays 0 = .ok (.aload_n 0, 1) := by decide +kernel
theorem dX6_stays_1 : decode cX6_stays 1 = .ok (.getfield 13, 3) := by decide +kernel
theorem dX6_stays_4 : decode cX6_stays 4 = .ok (.iconst 0, 1) := by decide +kernel
theorem dX6_stays_5 : decode cX6_stays 5 = .ok (.iaload, 1) := by decide +kernel
theorem dX6_stays_6 : decode cX6_stays 6 = .ok (.ifCond .eq 15, 3) := by decide +kernel
theorem dX6_stays_9 : decode cX6_stays 9 = .ok (.aload_n 0, 1) := by decide +kernel
theorem dX6_stays_10 : decode cX6_stays 10 = .ok (.getfield 38, 3) := by decide +kernel
theorem dX6_stays_13 : decode cX6_stays 13 = .ok (.iconst 1, 1) := by decide +kernel
theorem dX6_stays_14 : decode cX6_stays 14 = .ok (.iaload, 1) := by decide +kernel
theorem dX6_stays_15 : decode cX6_stays 15 = .ok (.sipush 999, 3) := by decide +kernel
theorem dX6_stays_18 : decode cX6_stays 18 = .ok (.if_icmp .ne 6, 3) := by decide +kernel
theorem dX6_stays_21 : decode cX6_stays 21 = .ok (.bipush (-2), 2) := by decide +kernel
theorem dX6_stays_23 : decode cX6_stays 23 = .ok (.ireturn, 1) := by decide +kernel
theorem dX6_stays_24 : decode cX6_stays 24 = .ok (.aload_n 0, 1) := by decide +kernel
theorem dX6_stays_25 : decode cX6_stays 25 = .ok (.invokevirtual 113, 3) := by decide +kernel
theorem dX6_stays_28 : decode cX6_stays 28 = .ok (.aload_n 0, 1) := by decide +kernel
theorem dX6_stays_29 : decode cX6_stays 29 = .ok (.iconst 1, 1) := by decide +kernel
theorem dX6_stays_30 : decode cX6_stays 30 = .ok (.invokevirtual 116, 3) := by decide +kernel
theorem dX6_stays_33 : decode cX6_stays 33 = .ok (.aload_n 0, 1) := by decide +kernel
theorem dX6_stays_34 : decode cX6_stays 34 = .ok (.getfield 38, 3) := by decide +kernel
theorem dX6_stays_37 : decode cX6_stays 37 = .ok (.iconst 1, 1) := by decide +kernel
theorem dX6_stays_38 : decode cX6_stays 38 = .ok (.iaload, 1) := by decide +kernel
theorem dX6_stays_39 : decode cX6_stays 39 = .ok (.ireturn, 1) := by decide +kernel
theorem dX6_takes_0 : decode cX6_takes 0 = .ok (.iload_n 1, 1) := by decide +kernel
theorem dX6_takes_1 : decode cX6_takes 1 = .ok (.iconst 1, 1) := by decide +kernel
theorem dX6_takes_2 : decode cX6_takes 2 = .ok (.bipush 60, 2) := by decide +kernel
theorem dX6_takes_4 : decode cX6_takes 4 = .ok (.invokestatic 54, 3) := by decide +kernel
theorem dX6_takes_7 : decode cX6_takes 7 = .ok (.ifCond .ne 5, 3) := by decide +kernel
theorem dX6_takes_10 : decode cX6_takes 10 = .ok (.iconst (-1), 1) := by decide +kernel
theorem dX6_takes_11 : decode cX6_takes 11 = .ok (.ireturn, 1) := by decide +kernel
theorem dX6_takes_12 : decode cX6_takes 12 = .ok (.aload_n 0, 1) := by decide +kernel
theorem dX6_takes_13 : decode cX6_takes 13 = .ok (.getfield 13, 3) := by decide +kernel
theorem dX6_takes_16 : decode cX6_takes 16 = .ok (.iconst 0, 1) := by decide +kernel
theorem dX6_takes_17 : decode cX6_takes 17 = .ok (.iaload, 1) := by decide +kernel
theorem dX6_takes_18 : decode cX6_takes 18 = .ok (.ifCond .ne 6, 3) := by decide +kernel
theorem dX6_takes_21 : decode cX6_takes 21 = .ok (.bipush (-2), 2) := by decide +kernel
theorem dX6_takes_23 : decode cX6_takes 23 = .ok (.ireturn, 1) := by decide +kernel
theorem dX6_takes_24 : decode cX6_takes 24 = .ok (.aload_n 0, 1) := by decide +kernel
theorem dX6_takes_25 : decode cX6_takes 25 = .ok (.getfield 38, 3) := by decide +kernel
theorem dX6_takes_28 : decode cX6_takes 28 = .ok (.iconst 0, 1) := by decide +kernel
theorem dX6_takes_29 : decode cX6_takes 29 = .ok (.iaload, 1) := by decide +kernel
theorem dX6_takes_30 : decode cX6_takes 30 = .ok (.istore_n 2, 1) := by decide +kernel
theorem dX6_takes_31 : decode cX6_takes 31 = .ok (.aload_n 0, 1) := by decide +kernel
theorem dX6_takes_32 : decode cX6_takes 32 = .ok (.getfield 35, 3) := by decide +kernel
theorem dX6_takes_35 : decode cX6_takes 35 = .ok (.iconst 1, 1) := by decide +kernel
theorem dX6_takes_36 : decode cX6_takes 36 = .ok (.iaload, 1) := by decide +kernel
theorem dX6_takes_37 : decode cX6_takes 37 = .ok (.iload_n 1, 1) := by decide +kernel
theorem dX6_takes_38 : decode cX6_takes 38 = .ok (.imul, 1) := by decide +kernel
theorem dX6_takes_39 : decode cX6_takes 39 = .ok (.bipush 10, 2) := by decide +kernel
theorem dX6_takes_41 : decode cX6_takes 41 = .ok (.idiv, 1) := by decide +kernel
theorem dX6_takes_42 : decode cX6_takes 42 = .ok (.istore_n 3, 1) := by decide +kernel
theorem dX6_takes_43 : decode cX6_takes 43 = .ok (.aload_n 0, 1) := by decide +kernel
theorem dX6_takes_44 : decode cX6_takes 44 = .ok (.getfield 23, 3) := by decide +kernel
theorem dX6_takes_47 : decode cX6_takes 47 = .ok (.iload_n 2, 1) := by decide +kernel
theorem dX6_takes_48 : decode cX6_takes 48 = .ok (.iaload, 1) := by decide +kernel
theorem dX6_takes_49 : decode cX6_takes 49 = .ok (.iconst 1, 1) := by decide +kernel
theorem dX6_takes_50 : decode cX6_takes 50 = .ok (.if_icmp .eq 46, 3) := by decide +kernel
theorem dX6_takes_53 : decode cX6_takes 53 = .ok (.aload_n 0, 1) := by decide +kernel
theorem dX6_takes_54 : decode cX6_takes 54 = .ok (.getfield 38, 3) := by decide +kernel
theorem dX6_takes_57 : decode cX6_takes 57 = .ok (.iconst 4, 1) := by decide +kernel
theorem dX6_takes_58 : decode cX6_takes 58 = .ok (.iload_n 2, 1) := by decide +kernel
theorem dX6_takes_59 : decode cX6_takes 59 = .ok (.iadd, 1) := by decide +kernel
theorem dX6_takes_60 : decode cX6_takes 60 = .ok (.iaload, 1) := by decide +kernel
theorem dX6_takes_61 : decode cX6_takes 61 = .ok (.iload_n 1, 1) := by decide +kernel
theorem dX6_takes_62 : decode cX6_takes 62 = .ok (.if_icmp .lt 34, 3) := by decide +kernel
theorem dX6_takes_65 : decode cX6_takes 65 = .ok (.aload_n 0, 1) := by decide +kernel
theorem dX6_takes_66 : decode cX6_takes 66 = .ok (.getfield 38, 3) := by decide +kernel
theorem dX6_takes_69 : decode cX6_takes 69 = .ok (.iconst 2, 1) := by decide +kernel
theorem dX6_takes_70 : decode cX6_takes 70 = .ok (.iaload, 1) := by decide +kernel
theorem dX6_takes_71 : decode cX6_takes 71 = .ok (.iload_n 1, 1) := by decide +kernel
theorem dX6_takes_72 : decode cX6_takes 72 = .ok (.iadd, 1) := by decide +kernel
theorem dX6_takes_73 : decode cX6_takes 73 = .ok (.sipush 999, 3) := by decide +kernel
theorem dX6_takes_76 : decode cX6_takes 76 = .ok (.if_icmp .gt 20, 3) := by decide +kernel
theorem dX6_takes_79 : decode cX6_takes 79 = .ok (.aload_n 0, 1) := by decide +kernel
theorem dX6_takes_80 : decode cX6_takes 80 = .ok (.getfield 38, 3) := by decide +kernel
theorem dX6_takes_83 : decode cX6_takes 83 = .ok (.bipush 16, 2) := by decide +kernel
theorem dX6_takes_85 : decode cX6_takes 85 = .ok (.iload_n 2, 1) := by decide +kernel
theorem dX6_takes_86 : decode cX6_takes 86 = .ok (.iadd, 1) := by decide +kernel
theorem dX6_takes_87 : decode cX6_takes 87 = .ok (.iaload, 1) := by decide +kernel
theorem dX6_takes_88 : decode cX6_takes 88 = .ok (.iload_n 3, 1) := by decide +kernel
theorem dX6_takes_89 : decode cX6_takes 89 = .ok (.iadd, 1) := by decide +kernel
theorem dX6_takes_90 : decode cX6_takes 90 = .ok (.sipush 999, 3) := by decide +kernel
theorem dX6_takes_93 : decode cX6_takes 93 = .ok (.if_icmp .le 6, 3) := by decide +kernel
theorem dX6_takes_96 : decode cX6_takes 96 = .ok (.bipush (-2), 2) := by decide +kernel
theorem dX6_takes_98 : decode cX6_takes 98 = .ok (.ireturn, 1) := by decide +kernel
theorem dX6_takes_99 : decode cX6_takes 99 = .ok (.aload_n 0, 1) := by decide +kernel
theorem dX6_takes_100 : decode cX6_takes 100 = .ok (.invokevirtual 113, 3) := by decide +kernel
theorem dX6_takes_103 : decode cX6_takes 103 = .ok (.aload_n 0, 1) := by decide +kernel
theorem dX6_takes_104 : decode cX6_takes 104 = .ok (.getfield 38, 3) := by decide +kernel
theorem dX6_takes_107 : decode cX6_takes 107 = .ok (.iconst 4, 1) := by decide +kernel
theorem dX6_takes_108 : decode cX6_takes 108 = .ok (.iload_n 2, 1) := by decide +kernel
theorem dX6_takes_109 : decode cX6_takes 109 = .ok (.iadd, 1) := by decide +kernel
theorem dX6_takes_110 : decode cX6_takes 110 = .ok (.dup2, 1) := by decide +kernel
theorem dX6_takes_111 : decode cX6_takes 111 = .ok (.iaload, 1) := by decide +kernel
theorem dX6_takes_112 : decode cX6_takes 112 = .ok (.iload_n 1, 1) := by decide +kernel
theorem dX6_takes_113 : decode cX6_takes 113 = .ok (.isub, 1) := by decide +kernel
theorem dX6_takes_114 : decode cX6_takes 114 = .ok (.iastore, 1) := by decide +kernel
theorem dX6_takes_115 : decode cX6_takes 115 = .ok (.aload_n 0, 1) := by decide +kernel
theorem dX6_takes_116 : decode cX6_takes 116 = .ok (.getfield 38, 3) := by decide +kernel
theorem dX6_takes_119 : decode cX6_takes 119 = .ok (.iconst 2, 1) := by decide +kernel
theorem dX6_takes_120 : decode cX6_takes 120 = .ok (.dup2, 1) := by decide +kernel
theorem dX6_takes_121 : decode cX6_takes 121 = .ok (.iaload, 1) := by decide +kernel
theorem dX6_takes_122 : decode cX6_takes 122 = .ok (.iload_n 1, 1) := by decide +kernel
theorem dX6_takes_123 : decode cX6_takes 123 = .ok (.iadd, 1) := by decide +kernel
theorem dX6_takes_124 : decode cX6_takes 124 = .ok (.iastore, 1) := by decide +kernel
theorem dX6_takes_125 : decode cX6_takes 125 = .ok (.aload_n 0, 1) := by decide +kernel
theorem dX6_takes_126 : decode cX6_takes 126 = .ok (.getfield 38, 3) := by decide +kernel
theorem dX6_takes_129 : decode cX6_takes 129 = .ok (.bipush 16, 2) := by decide +kernel
theorem dX6_takes_131 : decode cX6_takes 131 = .ok (.iload_n 2, 1) := by decide +kernel
theorem dX6_takes_132 : decode cX6_takes 132 = .ok (.iadd, 1) := by decide +kernel
theorem dX6_takes_133 : decode cX6_takes 133 = .ok (.dup2, 1) := by decide +kernel
theorem dX6_takes_134 : decode cX6_takes 134 = .ok (.iaload, 1) := by decide +kernel
theorem dX6_takes_135 : decode cX6_takes 135 = .ok (.iload_n 3, 1) := by decide +kernel
theorem dX6_takes_136 : decode cX6_takes 136 = .ok (.iadd, 1) := by decide +kernel
theorem dX6_takes_137 : decode cX6_takes 137 = .ok (.iastore, 1) := by decide +kernel
theorem dX6_takes_138 : decode cX6_takes 138 = .ok (.iload_n 3, 1) := by decide +kernel
theorem dX6_takes_139 : decode cX6_takes 139 = .ok (.ireturn, 1) := by decide +kernel
theorem dX6_shift_0 : decode cX6_shift 0 = .ok (.aload_n 0, 1) := by decide +kernel
theorem dX6_shift_1 : decode cX6_shift 1 = .ok (.iload_n 1, 1) := by decide +kernel
theorem dX6_shift_2 : decode cX6_shift 2 = .ok (.invokevirtual 107, 3) := by decide +kernel
theorem dX6_shift_5 : decode cX6_shift 5 = .ok (.ifCond .eq 13, 3) := by decide +kernel
theorem dX6_shift_8 : decode cX6_shift 8 = .ok (.iload_n 2, 1) := by decide +kernel
theorem dX6_shift_9 : decode cX6_shift 9 = .ok (.iconst 1, 1) := by decide +kernel
theorem dX6_shift_10 : decode cX6_shift 10 = .ok (.bipush 60, 2) := by decide +kernel
theorem dX6_shift_12 : decode cX6_shift 12 = .ok (.invokestatic 54, 3) := by decide +kernel
theorem dX6_shift_15 : decode cX6_shift 15 = .ok (.ifCond .ne 5, 3) := by decide +kernel
theorem dX6_shift_18 : decode cX6_shift 18 = .ok (.iconst (-1), 1) := by decide +kernel
theorem dX6_shift_19 : decode cX6_shift 19 = .ok (.ireturn, 1) := by decide +kernel
theorem dX6_shift_20 : decode cX6_shift 20 = .ok (.aload_n 0, 1) := by decide +kernel
theorem dX6_shift_21 : decode cX6_shift 21 = .ok (.getfield 38, 3) := by decide +kernel
theorem dX6_shift_24 : decode cX6_shift 24 = .ok (.iload_n 3, 1) := by decide +kernel
theorem dX6_shift_25 : decode cX6_shift 25 = .ok (.iload_n 1, 1) := by decide +kernel
theorem dX6_shift_26 : decode cX6_shift 26 = .ok (.iadd, 1) := by decide +kernel
theorem dX6_shift_27 : decode cX6_shift 27 = .ok (.iaload, 1) := by decide +kernel
