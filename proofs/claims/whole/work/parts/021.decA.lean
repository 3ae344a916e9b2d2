theorem dX0_init_0 : decode cX0_init 0 = .ok (.aload_n 0, 1) := by decide +kernel
theorem dX0_init_1 : decode cX0_init 1 = .ok (.invokespecial 3, 3) := by decide +kernel
theorem dX0_init_4 : decode cX0_init 4 = .ok (.aload_n 0, 1) := by decide +kernel
theorem dX0_init_5 : decode cX0_init 5 = .ok (.bipush 6, 2) := by decide +kernel
theorem dX0_init_7 : decode cX0_init 7 = .ok (.newarray .int, 2) := by decide +kernel
theorem dX0_init_9 : decode cX0_init 9 = .ok (.putfield 9, 3) := by decide +kernel
theorem dX0_init_12 : decode cX0_init 12 = .ok (.aload_n 0, 1) := by decide +kernel
theorem dX0_init_13 : decode cX0_init 13 = .ok (.bipush 6, 2) := by decide +kernel
theorem dX0_init_15 : decode cX0_init 15 = .ok (.newarray .int, 2) := by decide +kernel
theorem dX0_init_17 : decode cX0_init 17 = .ok (.putfield 15, 3) := by decide +kernel
theorem dX0_init_20 : decode cX0_init 20 = .ok (.aload_n 0, 1) := by decide +kernel
theorem dX0_init_21 : decode cX0_init 21 = .ok (.bipush 6, 2) := by decide +kernel
theorem dX0_init_23 : decode cX0_init 23 = .ok (.newarray .int, 2) := by decide +kernel
theorem dX0_init_25 : decode cX0_init 25 = .ok (.putfield 18, 3) := by decide +kernel
theorem dX0_init_28 : decode cX0_init 28 = .ok (.aload_n 0, 1) := by decide +kernel
theorem dX0_init_29 : decode cX0_init 29 = .ok (.bipush 36, 2) := by decide +kernel
theorem dX0_init_31 : decode cX0_init 31 = .ok (.newarray .int, 2) := by decide +kernel
theorem dX0_init_33 : decode cX0_init 33 = .ok (.putfield 21, 3) := by decide +kernel
theorem dX0_init_36 : decode cX0_init 36 = .ok (.aload_n 0, 1) := by decide +kernel
theorem dX0_init_37 : decode cX0_init 37 = .ok (.bipush 36, 2) := by decide +kernel
theorem dX0_init_39 : decode cX0_init 39 = .ok (.newarray .int, 2) := by decide +kernel
theorem dX0_init_41 : decode cX0_init 41 = .ok (.putfield 24, 3) := by decide +kernel
theorem dX0_init_44 : decode cX0_init 44 = .ok (.aload_n 0, 1) := by decide +kernel
theorem dX0_init_45 : decode cX0_init 45 = .ok (.iconst 3, 1) := by decide +kernel
theorem dX0_init_46 : decode cX0_init 46 = .ok (.newarray .int, 2) := by decide +kernel
theorem dX0_init_48 : decode cX0_init 48 = .ok (.putfield 27, 3) := by decide +kernel
theorem dX0_init_51 : decode cX0_init 51 = .ok (.aload_n 0, 1) := by decide +kernel
theorem dX0_init_52 : decode cX0_init 52 = .ok (.invokevirtual 30, 3) := by decide +kernel
theorem dX0_init_55 : decode cX0_init 55 = .ok (.return_, 1) := by decide +kernel
theorem dX0_empty_0 : decode cX0_empty 0 = .ok (.aload_n 0, 1) := by decide +kernel
theorem dX0_empty_1 : decode cX0_empty 1 = .ok (.iconst 0, 1) := by decide +kernel
theorem dX0_empty_2 : decode cX0_empty 2 = .ok (.putfield 33, 3) := by decide +kernel
theorem dX0_empty_5 : decode cX0_empty 5 = .ok (.aload_n 0, 1) := by decide +kernel
theorem dX0_empty_6 : decode cX0_empty 6 = .ok (.iconst 0, 1) := by decide +kernel
theorem dX0_empty_7 : decode cX0_empty 7 = .ok (.putfield 37, 3) := by decide +kernel
theorem dX0_empty_10 : decode cX0_empty 10 = .ok (.aload_n 0, 1) := by decide +kernel
theorem dX0_empty_11 : decode cX0_empty 11 = .ok (.iconst 3, 1) := by decide +kernel
theorem dX0_empty_12 : decode cX0_empty 12 = .ok (.putfield 40, 3) := by decide +kernel
theorem dX0_empty_15 : decode cX0_empty 15 = .ok (.aload_n 0, 1) := by decide +kernel
theorem dX0_empty_16 : decode cX0_empty 16 = .ok (.bipush 8, 2) := by decide +kernel
theorem dX0_empty_18 : decode cX0_empty 18 = .ok (.putfield 43, 3) := by decide +kernel
theorem dX0_empty_21 : decode cX0_empty 21 = .ok (.aload_n 0, 1) := by decide +kernel
theorem dX0_empty_22 : decode cX0_empty 22 = .ok (.iconst 0, 1) := by decide +kernel
theorem dX0_empty_23 : decode cX0_empty 23 = .ok (.putfield 46, 3) := by decide +kernel
theorem dX0_empty_26 : decode cX0_empty 26 = .ok (.aload_n 0, 1) := by decide +kernel
theorem dX0_empty_27 : decode cX0_empty 27 = .ok (.iconst 0, 1) := by decide +kernel
theorem dX0_empty_28 : decode cX0_empty 28 = .ok (.putfield 49, 3) := by decide +kernel
theorem dX0_empty_31 : decode cX0_empty 31 = .ok (.aload_n 0, 1) := by decide +kernel
theorem dX0_empty_32 : decode cX0_empty 32 = .ok (.getfield 24, 3) := by decide +kernel
theorem dX0_empty_35 : decode cX0_empty 35 = .ok (.iconst 0, 1) := by decide +kernel
theorem dX0_empty_36 : decode cX0_empty 36 = .ok (.invokestatic 52, 3) := by decide +kernel
theorem dX0_empty_39 : decode cX0_empty 39 = .ok (.aload_n 0, 1) := by decide +kernel
theorem dX0_empty_40 : decode cX0_empty 40 = .ok (.getfield 21, 3) := by decide +kernel
theorem dX0_empty_43 : decode cX0_empty 43 = .ok (.sipush 1000, 3) := by decide +kernel
theorem dX0_empty_46 : decode cX0_empty 46 = .ok (.invokestatic 52, 3) := by decide +kernel
theorem dX0_empty_49 : decode cX0_empty 49 = .ok (.iconst 0, 1) := by decide +kernel
theorem dX0_empty_50 : decode cX0_empty 50 = .ok (.istore_n 1, 1) := by decide +kernel
theorem dX0_empty_51 : decode cX0_empty 51 = .ok (.iload_n 1, 1) := by decide +kernel
theorem dX0_empty_52 : decode cX0_empty 52 = .ok (.bipush 6, 2) := by decide +kernel
theorem dX0_empty_54 : decode cX0_empty 54 = .ok (.if_icmp .ge 21, 3) := by decide +kernel
theorem dX0_empty_57 : decode cX0_empty 57 = .ok (.aload_n 0, 1) := by decide +kernel
theorem dX0_empty_58 : decode cX0_empty 58 = .ok (.getfield 21, 3) := by decide +kernel
theorem dX0_empty_61 : decode cX0_empty 61 = .ok (.iload_n 1, 1) := by decide +kernel
theorem dX0_empty_62 : decode cX0_empty 62 = .ok (.bipush 6, 2) := by decide +kernel
theorem dX0_empty_64 : decode cX0_empty 64 = .ok (.imul, 1) := by decide +kernel
theorem dX0_empty_65 : decode cX0_empty 65 = .ok (.iload_n 1, 1) := by decide +kernel
theorem dX0_empty_66 : decode cX0_empty 66 = .ok (.iadd, 1) := by decide +kernel
theorem dX0_empty_67 : decode cX0_empty 67 = .ok (.iconst 0, 1) := by decide +kernel
theorem dX0_empty_68 : decode cX0_empty 68 = .ok (.iastore, 1) := by decide +kernel
theorem dX0_empty_69 : decode cX0_empty 69 = .ok (.iinc 1 1, 3) := by decide +kernel
theorem dX0_empty_72 : decode cX0_empty 72 = .ok (.goto (-21), 3) := by decide +kernel
theorem dX0_empty_75 : decode cX0_empty 75 = .ok (.return_, 1) := by decide +kernel
theorem dX0_knows_0 : decode cX0_knows 0 = .ok (.iconst 0, 1) := by decide +kernel
theorem dX0_knows_1 : decode cX0_knows 1 = .ok (.iload_n 1, 1) := by decide +kernel
theorem dX0_knows_2 : decode cX0_knows 2 = .ok (.if_icmp .gt 21, 3) := by decide +kernel
theorem dX0_knows_5 : decode cX0_knows 5 = .ok (.iload_n 1, 1) := by decide +kernel
theorem dX0_knows_6 : decode cX0_knows 6 = .ok (.aload_n 0, 1) := by decide +kernel
theorem dX0_knows_7 : decode cX0_knows 7 = .ok (.getfield 33, 3) := by decide +kernel
theorem dX0_knows_10 : decode cX0_knows 10 = .ok (.if_icmp .ge 13, 3) := by decide +kernel
theorem dX0_knows_13 : decode cX0_knows 13 = .ok (.iload_n 1, 1) := by decide +kernel
theorem dX0_knows_14 : decode cX0_knows 14 = .ok (.bipush 6, 2) := by decide +kernel
theorem dX0_knows_16 : decode cX0_knows 16 = .ok (.if_icmp .ge 7, 3) := by decide +kernel
theorem dX0_knows_19 : decode cX0_knows 19 = .ok (.iconst 1, 1) := by decide +kernel
theorem dX0_knows_20 : decode cX0_knows 20 = .ok (.goto 4, 3) := by decide +kernel
theorem dX0_knows_23 : decode cX0_knows 23 = .ok (.iconst 0, 1) := by decide +kernel
theorem dX0_knows_24 : decode cX0_knows 24 = .ok (.ireturn, 1) := by decide +kernel
theorem dX0_hensOf_0 : decode cX0_hensOf 0 = .ok (.aload_n 0, 1) := by decide +kernel
theorem dX0_hensOf_1 : decode cX0_hensOf 1 = .ok (.iload_n 1, 1) := by decide +kernel
theorem dX0_hensOf_2 : decode cX0_hensOf 2 = .ok (.invokevirtual 58, 3) := by decide +kernel
theorem dX0_hensOf_5 : decode cX0_hensOf 5 = .ok (.ifCond .eq 12, 3) := by decide +kernel
theorem dX0_hensOf_8 : decode cX0_hensOf 8 = .ok (.aload_n 0, 1) := by decide +kernel
theorem dX0_hensOf_9 : decode cX0_hensOf 9 = .ok (.getfield 9, 3) := by decide +kernel
theorem dX0_hensOf_12 : decode cX0_hensOf 12 = .ok (.iload_n 1, 1) := by decide +kernel
theorem dX0_hensOf_13 : decode cX0_hensOf 13 = .ok (.iaload, 1) := by decide +kernel
theorem dX0_hensOf_14 : decode cX0_hensOf 14 = .ok (.goto 4, 3) := by decide +kernel
theorem dX0_hensOf_17 : decode cX0_hensOf 17 = .ok (.iconst 0, 1) := by decide +kernel
theorem dX0_hensOf_18 : decode cX0_hensOf 18 = .ok (.ireturn, 1) := by decide +kernel
theorem dX0_needOf_0 : decode cX0_needOf 0 = .ok (.aload_n 0, 1) := by decide +kernel
theorem dX0_needOf_1 : decode cX0_needOf 1 = .ok (.iload_n 1, 1) := by decide +kernel
theorem dX0_needOf_2 : decode cX0_needOf 2 = .ok (.invokevirtual 58, 3) := by decide +kernel
theorem dX0_needOf_5 : decode cX0_needOf 5 = .ok (.ifCond .eq 12, 3) := by decide +kernel
theorem dX0_needOf_8 : decode cX0_needOf 8 = .ok (.aload_n 0, 1) := by decide +kernel
theorem dX0_needOf_9 : decode cX0_needOf 9 = .ok (.getfield 15, 3) := by decide +kernel
theorem dX0_needOf_12 : decode cX0_needOf 12 = .ok (.iload_n 1, 1) := by decide +kernel
theorem dX0_needOf_13 : decode cX0_needOf 13 = .ok (.iaload, 1) := by decide +kernel
theorem dX0_needOf_14 : decode cX0_needOf 14 = .ok (.goto 4, 3) := by decide +kernel
theorem dX0_needOf_17 : decode cX0_needOf 17 = .ok (.iconst 0, 1) := by decide +kernel
theorem dX0_needOf_18 : decode cX0_needOf 18 = .ok (.ireturn, 1) := by decide +kernel
theorem dX0_hasCharter_0 : decode cX0_hasCharter 0 = .ok (.aload_n 0, 1) := by decide +kernel
theorem dX0_hasCharter_1 : decode cX0_hasCharter 1 = .ok (.iload_n 1, 1) := by decide +kernel
theorem dX0_hasCharter_2 : decode cX0_hasCharter 2 = .ok (.invokevirtual 58, 3) := by decide +kernel
theorem dX0_hasCharter_5 : decode cX0_hasCharter 5 = .ok (.ifCond .eq 17, 3) := by decide +kernel
theorem dX0_hasCharter_8 : decode cX0_hasCharter 8 = .ok (.aload_n 0, 1) := by decide +kernel
theorem dX0_hasCharter_9 : decode cX0_hasCharter 9 = .ok (.getfield 18, 3) := by decide +kernel
theorem dX0_hasCharter_12 : decode cX0_hasCharter 12 = .ok (.iload_n 1, 1) := by decide +kernel
theorem dX0_hasCharter_13 : decode cX0_hasCharter 13 = .ok (.iaload, 1) := by decide +kernel
theorem dX0_hasCharter_14 : decode cX0_hasCharter 14 = .ok (.iconst 1, 1) := by decide +kernel
theorem dX0_hasCharter_15 : decode cX0_hasCharter 15 = .ok (.if_icmp .ne 7, 3) := by decide +kernel
theorem dX0_hasCharter_18 : decode cX0_hasCharter 18 = .ok (.iconst 1, 1) := by decide +kernel
theorem dX0_hasCharter_19 : decode cX0_hasCharter 19 = .ok (.goto 4, 3) := by decide +kernel
theorem dX0_hasCharter_22 : decode cX0_hasCharter 22 = .ok (.iconst 0, 1) := by decide +kernel
theorem dX0_hasCharter_23 : decode cX0_hasCharter 23 = .ok (.ireturn, 1) := by decide +kernel
theorem dX0_debt_0 : decode cX0_debt 0 = .ok (.aload_n 0, 1) := by decide +kernel
theorem dX0_debt_1 : decode cX0_debt 1 = .ok (.iload_n 1, 1) := by decide +kernel
theorem dX0_debt_2 : decode cX0_debt 2 = .ok (.invokevirtual 58, 3) := by decide +kernel
theorem dX0_debt_5 : decode cX0_debt 5 = .ok (.ifCond .eq 25, 3) := by decide +kernel
theorem dX0_debt_8 : decode cX0_debt 8 = .ok (.aload_n 0, 1) := by decide +kernel
theorem dX0_debt_9 : decode cX0_debt 9 = .ok (.iload_n 2, 1) := by decide +kernel
theorem dX0_debt_10 : decode cX0_debt 10 = .ok (.invokevirtual 58, 3) := by decide +kernel
theorem dX0_debt_13 : decode cX0_debt 13 = .ok (.ifCond .eq 17, 3) := by decide +kernel
theorem dX0_debt_16 : decode cX0_debt 16 = .ok (.aload_n 0, 1) := by decide +kernel
theorem dX0_debt_17 : decode cX0_debt 17 = .ok (.getfield 24, 3) := by decide +kernel
theorem dX0_debt_20 : decode cX0_debt 20 = .ok (.iload_n 1, 1) := by decide +kernel
theorem dX0_debt_21 : decode cX0_debt 21 = .ok (.bipush 6, 2) := by decide +kernel
theorem dX0_debt_23 : decode cX0_debt 23 = .ok (.imul, 1) := by decide +kernel
theorem dX0_debt_24 : decode cX0_debt 24 = .ok (.iload_n 2, 1) := by decide +kernel
theorem dX0_debt_25 : decode cX0_debt 25 = .ok (.iadd, 1) := by decide +kernel
theorem dX0_debt_26 : decode cX0_debt 26 = .ok (.iaload, 1) := by decide +kernel
theorem dX0_debt_27 : decode cX0_debt 27 = .ok (.goto 4, 3) := by decide +kernel
theorem dX0_debt_30 : decode cX0_debt 30 = .ok (.iconst 0, 1) := by decide +kernel
theorem dX0_debt_31 : decode cX0_debt 31 = .ok (.ireturn, 1) := by decide +kernel
theorem dX0_daysBetween_0 : decode cX0_daysBetween 0 = .ok (.aload_n 0, 1) := by decide +kernel
theorem dX0_daysBetween_1 : decode cX0_daysBetween 1 = .ok (.iload_n 1, 1) := by decide +kernel
theorem dX0_daysBetween_2 : decode cX0_daysBetween 2 = .ok (.invokevirtual 58, 3) := by decide +kernel
theorem dX0_daysBetween_5 : decode cX0_daysBetween 5 = .ok (.ifCond .eq 11, 3) := by decide +kernel
theorem dX0_daysBetween_8 : decode cX0_daysBetween 8 = .ok (.aload_n 0, 1) := by decide +kernel
theorem dX0_daysBetween_9 : decode cX0_daysBetween 9 = .ok (.iload_n 2, 1) := by decide +kernel
theorem dX0_daysBetween_10 : decode cX0_daysBetween 10 = .ok (.invokevirtual 58, 3) := by decide +kernel
theorem dX0_daysBetween_13 : decode cX0_daysBetween 13 = .ok (.ifCond .ne 6, 3) := by decide +kernel
theorem dX0_daysBetween_16 : decode cX0_daysBetween 16 = .ok (.bipush (-9), 2) := by decide +kernel
theorem dX0_daysBetween_18 : decode cX0_daysBetween 18 = .ok (.ireturn, 1) := by decide +kernel
theorem dX0_daysBetween_19 : decode cX0_daysBetween 19 = .ok (.aload_n 0, 1) := by decide +kernel
theorem dX0_daysBetween_20 : decode cX0_daysBetween 20 = .ok (.getfield 21, 3) := by decide +kernel
theorem dX0_daysBetween_23 : decode cX0_daysBetween 23 = .ok (.iload_n 1, 1) := by decide +kernel
theorem dX0_daysBetween_24 : decode cX0_daysBetween 24 = .ok (.bipush 6, 2) := by decide +kernel
theorem dX0_daysBetween_26 : decode cX0_daysBetween 26 = .ok (.imul, 1) := by decide +kernel
theorem dX0_daysBetween_27 : decode cX0_daysBetween 27 = .ok (.iload_n 2, 1) := by decide +kernel
theorem dX0_daysBetween_28 : decode cX0_daysBetween 28 = .ok (.iadd, 1) := by decide +kernel
theorem dX0_daysBetween_29 : decode cX0_daysBetween 29 = .ok (.iaload, 1) := by decide +kernel
theorem dX0_daysBetween_30 : decode cX0_daysBetween 30 = .ok (.istore_n 3, 1) := by decide +kernel
theorem dX0_daysBetween_31 : decode cX0_daysBetween 31 = .ok (.iload_n 3, 1) := by decide +kernel
theorem dX0_daysBetween_32 : decode cX0_daysBetween 32 = .ok (.sipush 1000, 3) := by decide +kernel
theorem dX0_daysBetween_35 : decode cX0_daysBetween 35 = .ok (.if_icmp .lt 8, 3) := by decide +kernel
theorem dX0_daysBetween_38 : decode cX0_daysBetween 38 = .ok (.bipush (-9), 2) := by decide +kernel
theorem dX0_daysBetween_40 : decode cX0_daysBetween 40 = .ok (.goto 4, 3) := by decide +kernel
theorem dX0_daysBetween_43 : decode cX0_daysBetween 43 = .ok (.iload_n 3, 1) := by decide +kernel
theorem dX0_daysBetween_44 : decode cX0_daysBetween 44 = .ok (.ireturn, 1) := by decide +kernel
theorem dX0_writtenFor_0 : decode cX0_writtenFor 0 = .ok (.aload_n 0, 1) := by decide +kernel
theorem dX0_writtenFor_1 : decode cX0_writtenFor 1 = .ok (.getfield 43, 3) := by decide +kernel
theorem dX0_writtenFor_4 : decode cX0_writtenFor 4 = .ok (.iload_n 1, 1) := by decide +kernel
theorem dX0_writtenFor_5 : decode cX0_writtenFor 5 = .ok (.imul, 1) := by decide +kernel
theorem dX0_writtenFor_6 : decode cX0_writtenFor 6 = .ok (.bipush 10, 2) := by decide +kernel
theorem dX0_writtenFor_8 : decode cX0_writtenFor 8 = .ok (.idiv, 1) := by decide +kernel
theorem dX0_writtenFor_9 : decode cX0_writtenFor 9 = .ok (.ireturn, 1) := by decide +kernel
theorem dX0_readAll_0 : decode cX0_readAll 0 = .ok (.aload_n 0, 1) := by decide +kernel
theorem dX0_readAll_1 : decode cX0_readAll 1 = .ok (.invokevirtual 30, 3) := by decide +kernel
theorem dX0_readAll_4 : decode cX0_readAll 4 = .ok (.aload_n 1, 1) := by decide +kernel
theorem dX0_readAll_5 : decode cX0_readAll 5 = .ok (.invokevirtual 62, 3) := by decide +kernel
theorem dX0_readAll_8 : decode cX0_readAll 8 = .ok (.iconst 0, 1) := by decide +kernel
theorem dX0_readAll_9 : decode cX0_readAll 9 = .ok (.istore_n 2, 1) := by decide +kernel
theorem dX0_readAll_10 : decode cX0_readAll 10 = .ok (.iload_n 2, 1) := by decide +kernel
theorem dX0_readAll_11 : decode cX0_readAll 11 = .ok (.sipush 180, 3) := by decide +kernel
theorem dX0_readAll_14 : decode cX0_readAll 14 = .ok (.if_icmp .ge 32, 3) := by decide +kernel
theorem dX0_readAll_17 : decode cX0_readAll 17 = .ok (.aload_n 1, 1) := by decide +kernel
theorem dX0_readAll_18 : decode cX0_readAll 18 = .ok (.getfield 67, 3) := by decide +kernel
theorem dX0_readAll_21 : decode cX0_readAll 21 = .ok (.ifCond .eq 25, 3) := by decide +kernel
theorem dX0_readAll_24 : decode cX0_readAll 24 = .ok (.aload_n 0, 1) := by decide +kernel
theorem dX0_readAll_25 : decode cX0_readAll 25 = .ok (.aload_n 1, 1) := by decide +kernel
theorem dX0_readAll_26 : decode cX0_readAll 26 = .ok (.invokevirtual 70, 3) := by decide +kernel
theorem dX0_readAll_29 : decode cX0_readAll 29 = .ok (.ifCond .ne 11, 3) := by decide +kernel
theorem dX0_readAll_32 : decode cX0_readAll 32 = .ok (.bipush (-10), 2) := by decide +kernel
theorem dX0_readAll_34 : decode cX0_readAll 34 = .ok (.aload_n 1, 1) := by decide +kernel
theorem dX0_readAll_35 : decode cX0_readAll 35 = .ok (.getfield 74, 3) := by decide +kernel
theorem dX0_readAll_38 : decode cX0_readAll 38 = .ok (.isub, 1) := by decide +kernel
theorem dX0_readAll_39 : decode cX0_readAll 39 = .ok (.ireturn, 1) := by decide +kernel
theorem dX0_readAll_40 : decode cX0_readAll 40 = .ok (.iinc 2 1, 3) := by decide +kernel
theorem dX0_readAll_43 : decode cX0_readAll 43 = .ok (.goto (-33), 3) := by decide +kernel
theorem dX0_readAll_46 : decode cX0_readAll 46 = .ok (.aload_n 0, 1) := by decide +kernel
theorem dX0_readAll_47 : decode cX0_readAll 47 = .ok (.invokevirtual 77, 3) := by decide +kernel
theorem dX0_readAll_50 : decode cX0_readAll 50 = .ok (.iload_n 2, 1) := by decide +kernel
theorem dX0_readAll_51 : decode cX0_readAll 51 = .ok (.ireturn, 1) := by decide +kernel
theorem dX0_readItem_0 : decode cX0_readItem 0 = .ok (.aload_n 1, 1) := by decide +kernel
theorem dX0_readItem_1 : decode cX0_readItem 1 = .ok (.getfield 80, 3) := by decide +kernel
theorem dX0_readItem_4 : decode cX0_readItem 4 = .ok (.istore_n 2, 1) := by decide +kernel
theorem dX0_readItem_5 : decode cX0_readItem 5 = .ok (.aload_n 1, 1) := by decide +kernel
theorem dX0_readItem_6 : decode cX0_readItem 6 = .ok (.getfield 67, 3) := by decide +kernel
theorem dX0_readItem_9 : decode cX0_readItem 9 = .ok (.iconst 1, 1) := by decide +kernel
theorem dX0_readItem_10 : decode cX0_readItem 10 = .ok (.if_icmp .ne 11, 3) := by decide +kernel
theorem dX0_readItem_13 : decode cX0_readItem 13 = .ok (.aload_n 0, 1) := by decide +kernel
theorem dX0_readItem_14 : decode cX0_readItem 14 = .ok (.iload_n 2, 1) := by decide +kernel
theorem dX0_readItem_15 : decode cX0_readItem 15 = .ok (.invokevirtual 83, 3) := by decide +kernel
theorem dX0_readItem_18 : decode cX0_readItem 18 = .ok (.ifCond .ne 5, 3) := by decide +kernel
theorem dX0_readItem_21 : decode cX0_readItem 21 = .ok (.iconst 0, 1) := by decide +kernel
theorem dX0_readItem_22 : decode cX0_readItem 22 = .ok (.ireturn, 1) := by decide +kernel
theorem dX0_readItem_23 : decode cX0_readItem 23 = .ok (.aload_n 1, 1) := by decide +kernel
theorem dX0_readItem_24 : decode cX0_readItem 24 = .ok (.invokevirtual 86, 3) := by decide +kernel
theorem dX0_readItem_27 : decode cX0_readItem 27 = .ok (.iload_n 2, 1) := by decide +kernel
theorem dX0_readItem_28 : decode cX0_readItem 28 = .ok (.invokestatic 89, 3) := by decide +kernel
theorem dX0_readItem_31 : decode cX0_readItem 31 = .ok (.ifCond .eq 7, 3) := by decide +kernel
theorem dX0_readItem_34 : decode cX0_readItem 34 = .ok (.iconst 1, 1) := by decide +kernel
theorem dX0_readItem_35 : decode cX0_readItem 35 = .ok (.goto 4, 3) := by decide +kernel
theorem dX0_readItem_38 : decode cX0_readItem 38 = .ok (.iconst 3, 1) := by decide +kernel
theorem dX0_readItem_39 : decode cX0_readItem 39 = .ok (.istore_n 3, 1) := by decide +kernel
theorem dX0_readItem_40 : decode cX0_readItem 40 = .ok (.iconst 0, 1) := by decide +kernel
theorem dX0_readItem_41 : decode cX0_readItem 41 = .ok (.istore 4, 2) := by decide +kernel
theorem dX0_readItem_43 : decode cX0_readItem 43 = .ok (.iload 4, 2) := by decide +kernel
theorem dX0_readItem_45 : decode cX0_readItem 45 = .ok (.iload_n 3, 1) := by decide +kernel
theorem dX0_readItem_46 : decode cX0_readItem 46 = .ok (.if_icmp .ge 58, 3) := by decide +kernel
theorem dX0_readItem_49 : decode cX0_readItem 49 = .ok (.iload 4, 2) := by decide +kernel
theorem dX0_readItem_51 : decode cX0_readItem 51 = .ok (.aload_n 0, 1) := by decide +kernel
theorem dX0_readItem_52 : decode cX0_readItem 52 = .ok (.getfield 27, 3) := by decide +kernel
theorem dX0_readItem_55 : decode cX0_readItem 55 = .ok (.arraylength, 1) := by decide +kernel
theorem dX0_readItem_56 : decode cX0_readItem 56 = .ok (.if_icmp .ge 48, 3) := by decide +kernel
theorem dX0_readItem_59 : decode cX0_readItem 59 = .ok (.aload_n 1, 1) := by decide +kernel
theorem dX0_readItem_60 : decode cX0_readItem 60 = .ok (.getfield 67, 3) := by decide +kernel
theorem dX0_readItem_63 : decode cX0_readItem 63 = .ok (.iconst 2, 1) := by decide +kernel
theorem dX0_readItem_64 : decode cX0_readItem 64 = .ok (.if_icmp .ne 17, 3) := by decide +kernel
theorem dX0_readItem_67 : decode cX0_readItem 67 = .ok (.aload_n 0, 1) := by decide +kernel
theorem dX0_readItem_68 : decode cX0_readItem 68 = .ok (.iload_n 2, 1) := by decide +kernel
theorem dX0_readItem_69 : decode cX0_readItem 69 = .ok (.iload 4, 2) := by decide +kernel
theorem dX0_readItem_71 : decode cX0_readItem 71 = .ok (.aload_n 1, 1) := by decide +kernel
theorem dX0_readItem_72 : decode cX0_readItem 72 = .ok (.getfield 80, 3) := by decide +kernel
theorem dX0_readItem_75 : decode cX0_readItem 75 = .ok (.invokevirtual 92, 3) := by decide +kernel
theorem dX0_readItem_78 : decode cX0_readItem 78 = .ok (.ifCond .ne 5, 3) := by decide +kernel
theorem dX0_readItem_81 : decode cX0_readItem 81 = .ok (.iconst 0, 1) := by decide +kernel
theorem dX0_readItem_82 : decode cX0_readItem 82 = .ok (.ireturn, 1) := by decide +kernel
theorem dX0_readItem_83 : decode cX0_readItem 83 = .ok (.aload_n 0, 1) := by decide +kernel
theorem dX0_readItem_84 : decode cX0_readItem 84 = .ok (.getfield 27, 3) := by decide +kernel
theorem dX0_readItem_87 : decode cX0_readItem 87 = .ok (.iload 4, 2) := by decide +kernel
theorem dX0_readItem_89 : decode cX0_readItem 89 = .ok (.aload_n 1, 1) := by decide +kernel
theorem dX0_readItem_90 : decode cX0_readItem 90 = .ok (.getfield 80, 3) := by decide +kernel
theorem dX0_readItem_93 : decode cX0_readItem 93 = .ok (.iastore, 1) := by decide +kernel
theorem dX0_readItem_94 : decode cX0_readItem 94 = .ok (.aload_n 1, 1) := by decide +kernel
theorem dX0_readItem_95 : decode cX0_readItem 95 = .ok (.invokevirtual 86, 3) := by decide +kernel
theorem dX0_readItem_98 : decode cX0_readItem 98 = .ok (.iinc 4 1, 3) := by decide +kernel
theorem dX0_readItem_101 : decode cX0_readItem 101 = .ok (.goto (-58), 3) := by decide +kernel
theorem dX0_readItem_104 : decode cX0_readItem 104 = .ok (.aload_n 1, 1) := by decide +kernel
theorem dX0_readItem_105 : decode cX0_readItem 105 = .ok (.getfield 67, 3) := by decide +kernel
theorem dX0_readItem_108 : decode cX0_readItem 108 = .ok (.iconst 3, 1) := by decide +kernel
theorem dX0_readItem_109 : decode cX0_readItem 109 = .ok (.if_icmp .eq 5, 3) := by decide +kernel
theorem dX0_readItem_112 : decode cX0_readItem 112 = .ok (.iconst 0, 1) := by decide +kernel
theorem dX0_readItem_113 : decode cX0_readItem 113 = .ok (.ireturn, 1) := by decide +kernel
theorem dX0_readItem_114 : decode cX0_readItem 114 = .ok (.aload_n 1, 1) := by decide +kernel
theorem dX0_readItem_115 : decode cX0_readItem 115 = .ok (.invokevirtual 86, 3) := by decide +kernel
theorem dX0_readItem_118 : decode cX0_readItem 118 = .ok (.aload_n 0, 1) := by decide +kernel
theorem dX0_readItem_119 : decode cX0_readItem 119 = .ok (.iload_n 2, 1) := by decide +kernel
theorem dX0_readItem_120 : decode cX0_readItem 120 = .ok (.invokevirtual 96, 3) := by decide +kernel
theorem dX0_readItem_123 : decode cX0_readItem 123 = .ok (.iconst 1, 1) := by decide +kernel
theorem dX0_readItem_124 : decode cX0_readItem 124 = .ok (.ireturn, 1) := by decide +kernel
theorem dX0_isToldOnce_0 : decode cX0_isToldOnce 0 = .ok (.iload_n 0, 1) := by decide +kernel
theorem dX0_isToldOnce_1 : decode cX0_isToldOnce 1 = .ok (.bipush 109, 2) := by decide +kernel
theorem dX0_isToldOnce_3 : decode cX0_isToldOnce 3 = .ok (.if_icmp .eq 15, 3) := by decide +kernel
theorem dX0_isToldOnce_6 : decode cX0_isToldOnce 6 = .ok (.iload_n 0, 1) := by decide +kernel
theorem dX0_isToldOnce_7 : decode cX0_isToldOnce 7 = .ok (.bipush 119, 2) := by decide +kernel
theorem dX0_isToldOnce_9 : decode cX0_isToldOnce 9 = .ok (.if_icmp .eq 9, 3) := by decide +kernel
theorem dX0_isToldOnce_12 : decode cX0_isToldOnce 12 = .ok (.iload_n 0, 1) := by decide +kernel
theorem dX0_isToldOnce_13 : decode cX0_isToldOnce 13 = .ok (.bipush 98, 2) := by decide +kernel
theorem dX0_isToldOnce_15 : decode cX0_isToldOnce 15 = .ok (.if_icmp .ne 7, 3) := by decide +kernel
theorem dX0_isToldOnce_18 : decode cX0_isToldOnce 18 = .ok (.iconst 1, 1) := by decide +kernel
theorem dX0_isToldOnce_19 : decode cX0_isToldOnce 19 = .ok (.goto 4, 3) := by decide +kernel
theorem dX0_isToldOnce_22 : decode cX0_isToldOnce 22 = .ok (.iconst 0, 1) := by decide +kernel
theorem dX0_isToldOnce_23 : decode cX0_isToldOnce 23 = .ok (.ireturn, 1) := by decide +kernel
theorem dX0_mayBegin_0 : decode cX0_mayBegin 0 = .ok (.iload_n 1, 1) := by decide +kernel
theorem dX0_mayBegin_1 : decode cX0_mayBegin 1 = .ok (.lookupswitch 67 #[(100, 65), (114, 50), (118, 35)], 35) := by decide +kernel
theorem dX0_mayBegin_36 : decode cX0_mayBegin 36 = .ok (.aload_n 0, 1) := by decide +kernel
theorem dX0_mayBegin_37 : decode cX0_mayBegin 37 = .ok (.getfield 33, 3) := by decide +kernel
theorem dX0_mayBegin_40 : decode cX0_mayBegin 40 = .ok (.bipush 6, 2) := by decide +kernel
theorem dX0_mayBegin_42 : decode cX0_mayBegin 42 = .ok (.if_icmp .ge 7, 3) := by decide +kernel
theorem dX0_mayBegin_45 : decode cX0_mayBegin 45 = .ok (.iconst 1, 1) := by decide +kernel
theorem dX0_mayBegin_46 : decode cX0_mayBegin 46 = .ok (.goto 4, 3) := by decide +kernel
theorem dX0_mayBegin_49 : decode cX0_mayBegin 49 = .ok (.iconst 0, 1) := by decide +kernel
theorem dX0_mayBegin_50 : decode cX0_mayBegin 50 = .ok (.ireturn, 1) := by decide +kernel
theorem dX0_mayBegin_51 : decode cX0_mayBegin 51 = .ok (.aload_n 0, 1) := by decide +kernel
theorem dX0_mayBegin_52 : decode cX0_mayBegin 52 = .ok (.getfield 37, 3) := by decide +kernel
theorem dX0_mayBegin_55 : decode cX0_mayBegin 55 = .ok (.bipush 10, 2) := by decide +kernel
theorem dX0_mayBegin_57 : decode cX0_mayBegin 57 = .ok (.if_icmp .ge 7, 3) := by decide +kernel
theorem dX0_mayBegin_60 : decode cX0_mayBegin 60 = .ok (.iconst 1, 1) := by decide +kernel
theorem dX0_mayBegin_61 : decode cX0_mayBegin 61 = .ok (.goto 4, 3) := by decide +kernel
theorem dX0_mayBegin_64 : decode cX0_mayBegin 64 = .ok (.iconst 0, 1) := by decide +kernel
theorem dX0_mayBegin_65 : decode cX0_mayBegin 65 = .ok (.ireturn, 1) := by decide +kernel
theorem dX0_mayBegin_66 : decode cX0_mayBegin 66 = .ok (.iconst 1, 1) := by decide +kernel
theorem dX0_mayBegin_67 : decode cX0_mayBegin 67 = .ok (.ireturn, 1) := by decide +kernel
theorem dX0_mayBegin_68 : decode cX0_mayBegin 68 = .ok (.iload_n 1, 1) := by decide +kernel
theorem dX0_mayBegin_69 : decode cX0_mayBegin 69 = .ok (.invokestatic 89, 3) := by decide +kernel
theorem dX0_mayBegin_72 : decode cX0_mayBegin 72 = .ok (.ifCond .eq 19, 3) := by decide +kernel
theorem dX0_mayBegin_75 : decode cX0_mayBegin 75 = .ok (.aload_n 0, 1) := by decide +kernel
theorem dX0_mayBegin_76 : decode cX0_mayBegin 76 = .ok (.getfield 49, 3) := by decide +kernel
theorem dX0_mayBegin_79 : decode cX0_mayBegin 79 = .ok (.iload_n 1, 1) := by decide +kernel
theorem dX0_mayBegin_80 : decode cX0_mayBegin 80 = .ok (.invokestatic 100, 3) := by decide +kernel
theorem dX0_mayBegin_83 : decode cX0_mayBegin 83 = .ok (.iand, 1) := by decide +kernel
theorem dX0_mayBegin_84 : decode cX0_mayBegin 84 = .ok (.ifCond .ne 7, 3) := by decide +kernel
theorem dX0_mayBegin_87 : decode cX0_mayBegin 87 = .ok (.iconst 1, 1) := by decide +kernel
theorem dX0_mayBegin_88 : decode cX0_mayBegin 88 = .ok (.goto 4, 3) := by decide +kernel
theorem dX0_mayBegin_91 : decode cX0_mayBegin 91 = .ok (.iconst 0, 1) := by decide +kernel
theorem dX0_mayBegin_92 : decode cX0_mayBegin 92 = .ok (.ireturn, 1) := by decide +kernel
theorem dX0_bitOf_0 : decode cX0_bitOf 0 = .ok (.iconst 1, 1) := by decide +kernel
theorem dX0_bitOf_1 : decode cX0_bitOf 1 = .ok (.iload_n 0, 1) := by decide +kernel
theorem dX0_bitOf_2 : decode cX0_bitOf 2 = .ok (.bipush 97, 2) := by decide +kernel
theorem dX0_bitOf_4 : decode cX0_bitOf 4 = .ok (.isub, 1) := by decide +kernel
theorem dX0_bitOf_5 : decode cX0_bitOf 5 = .ok (.ishl, 1) := by decide +kernel
theorem dX0_bitOf_6 : decode cX0_bitOf 6 = .ok (.ireturn, 1) := by decide +kernel
theorem dX0_mayBeTold_0 : decode cX0_mayBeTold 0 = .ok (.iload_n 1, 1) := by decide +kernel
theorem dX0_mayBeTold_1 : decode cX0_mayBeTold 1 = .ok (.lookupswitch 136 #[(100, 94), (109, 116), (114, 72), (118, 51), (119, 124)], 51) := by decide +kernel
theorem dX0_mayBeTold_52 : decode cX0_mayBeTold 52 = .ok (.iload_n 3, 1) := by decide +kernel
theorem dX0_mayBeTold_53 : decode cX0_mayBeTold 53 = .ok (.iload_n 2, 1) := by decide +kernel
theorem dX0_mayBeTold_54 : decode cX0_mayBeTold 54 = .ok (.iconst 2, 1) := by decide +kernel
theorem dX0_mayBeTold_55 : decode cX0_mayBeTold 55 = .ok (.if_icmp .ge 8, 3) := by decide +kernel
theorem dX0_mayBeTold_58 : decode cX0_mayBeTold 58 = .ok (.bipush 60, 2) := by decide +kernel
theorem dX0_mayBeTold_60 : decode cX0_mayBeTold 60 = .ok (.goto 4, 3) := by decide +kernel
theorem dX0_mayBeTold_63 : decode cX0_mayBeTold 63 = .ok (.iconst 1, 1) := by decide +kernel
theorem dX0_mayBeTold_64 : decode cX0_mayBeTold 64 = .ok (.if_icmp .gt 7, 3) := by decide +kernel
theorem dX0_mayBeTold_67 : decode cX0_mayBeTold 67 = .ok (.iconst 1, 1) := by decide +kernel
theorem dX0_mayBeTold_68 : decode cX0_mayBeTold 68 = .ok (.goto 4, 3) := by decide +kernel
theorem dX0_mayBeTold_71 : decode cX0_mayBeTold 71 = .ok (.iconst 0, 1) := by decide +kernel
theorem dX0_mayBeTold_72 : decode cX0_mayBeTold 72 = .ok (.ireturn, 1) := by decide +kernel
theorem dX0_mayBeTold_73 : decode cX0_mayBeTold 73 = .ok (.iload_n 2, 1) := by decide +kernel
theorem dX0_mayBeTold_74 : decode cX0_mayBeTold 74 = .ok (.iconst 2, 1) := by decide +kernel
theorem dX0_mayBeTold_75 : decode cX0_mayBeTold 75 = .ok (.if_icmp .ge 12, 3) := by decide +kernel
theorem dX0_mayBeTold_78 : decode cX0_mayBeTold 78 = .ok (.aload_n 0, 1) := by decide +kernel
theorem dX0_mayBeTold_79 : decode cX0_mayBeTold 79 = .ok (.iload_n 2, 1) := by decide +kernel
theorem dX0_mayBeTold_80 : decode cX0_mayBeTold 80 = .ok (.iload_n 3, 1) := by decide +kernel
theorem dX0_mayBeTold_81 : decode cX0_mayBeTold 81 = .ok (.invokevirtual 104, 3) := by decide +kernel
theorem dX0_mayBeTold_84 : decode cX0_mayBeTold 84 = .ok (.goto 10, 3) := by decide +kernel
theorem dX0_mayBeTold_87 : decode cX0_mayBeTold 87 = .ok (.iload_n 3, 1) := by decide +kernel
theorem dX0_mayBeTold_88 : decode cX0_mayBeTold 88 = .ok (.iconst 1, 1) := by decide +kernel
theorem dX0_mayBeTold_89 : decode cX0_mayBeTold 89 = .ok (.bipush 9, 2) := by decide +kernel
theorem dX0_mayBeTold_91 : decode cX0_mayBeTold 91 = .ok (.invokestatic 108, 3) := by decide +kernel
theorem dX0_mayBeTold_94 : decode cX0_mayBeTold 94 = .ok (.ireturn, 1) := by decide +kernel
theorem dX0_mayBeTold_95 : decode cX0_mayBeTold 95 = .ok (.iload_n 2, 1) := by decide +kernel
theorem dX0_mayBeTold_96 : decode cX0_mayBeTold 96 = .ok (.iconst 2, 1) := by decide +kernel
theorem dX0_mayBeTold_97 : decode cX0_mayBeTold 97 = .ok (.if_icmp .ge 12, 3) := by decide +kernel
theorem dX0_mayBeTold_100 : decode cX0_mayBeTold 100 = .ok (.aload_n 0, 1) := by decide +kernel
theorem dX0_mayBeTold_101 : decode cX0_mayBeTold 101 = .ok (.iload_n 2, 1) := by decide +kernel
theorem dX0_mayBeTold_102 : decode cX0_mayBeTold 102 = .ok (.iload_n 3, 1) := by decide +kernel
theorem dX0_mayBeTold_103 : decode cX0_mayBeTold 103 = .ok (.invokevirtual 104, 3) := by decide +kernel
theorem dX0_mayBeTold_106 : decode cX0_mayBeTold 106 = .ok (.goto 10, 3) := by decide +kernel
theorem dX0_mayBeTold_109 : decode cX0_mayBeTold 109 = .ok (.iload_n 3, 1) := by decide +kernel
theorem dX0_mayBeTold_110 : decode cX0_mayBeTold 110 = .ok (.iconst 1, 1) := by decide +kernel
theorem dX0_mayBeTold_111 : decode cX0_mayBeTold 111 = .ok (.bipush 99, 2) := by decide +kernel
theorem dX0_mayBeTold_113 : decode cX0_mayBeTold 113 = .ok (.invokestatic 108, 3) := by decide +kernel
theorem dX0_mayBeTold_116 : decode cX0_mayBeTold 116 = .ok (.ireturn, 1) := by decide +kernel
theorem dX0_mayBeTold_117 : decode cX0_mayBeTold 117 = .ok (.iload_n 3, 1) := by decide +kernel
theorem dX0_mayBeTold_118 : decode cX0_mayBeTold 118 = .ok (.iconst 1, 1) := by decide +kernel
theorem dX0_mayBeTold_119 : decode cX0_mayBeTold 119 = .ok (.bipush 9, 2) := by decide +kernel
theorem dX0_mayBeTold_121 : decode cX0_mayBeTold 121 = .ok (.invokestatic 108, 3) := by decide +kernel
theorem dX0_mayBeTold_124 : decode cX0_mayBeTold 124 = .ok (.ireturn, 1) := by decide +kernel
theorem dX0_mayBeTold_125 : decode cX0_mayBeTold 125 = .ok (.iload_n 3, 1) := by decide +kernel
theorem dX0_mayBeTold_126 : decode cX0_mayBeTold 126 = .ok (.bipush 10, 2) := by decide +kernel
theorem dX0_mayBeTold_128 : decode cX0_mayBeTold 128 = .ok (.if_icmp .gt 7, 3) := by decide +kernel
theorem dX0_mayBeTold_131 : decode cX0_mayBeTold 131 = .ok (.iconst 1, 1) := by decide +kernel
theorem dX0_mayBeTold_132 : decode cX0_mayBeTold 132 = .ok (.goto 4, 3) := by decide +kernel
theorem dX0_mayBeTold_135 : decode cX0_mayBeTold 135 = .ok (.iconst 0, 1) := by decide +kernel
theorem dX0_mayBeTold_136 : decode cX0_mayBeTold 136 = .ok (.ireturn, 1) := by decide +kernel
theorem dX0_mayBeTold_137 : decode cX0_mayBeTold 137 = .ok (.iload_n 3, 1) := by decide +kernel
theorem dX0_mayBeTold_138 : decode cX0_mayBeTold 138 = .ok (.bipush 99, 2) := by decide +kernel
theorem dX0_mayBeTold_140 : decode cX0_mayBeTold 140 = .ok (.if_icmp .gt 7, 3) := by decide +kernel
theorem dX0_mayBeTold_143 : decode cX0_mayBeTold 143 = .ok (.iconst 1, 1) := by decide +kernel
theorem dX0_mayBeTold_144 : decode cX0_mayBeTold 144 = .ok (.goto 4, 3) := by decide +kernel
theorem dX0_mayBeTold_147 : decode cX0_mayBeTold 147 = .ok (.iconst 0, 1) := by decide +kernel
theorem dX0_mayBeTold_148 : decode cX0_mayBeTold 148 = .ok (.ireturn, 1) := by decide +kernel
theorem dX0_mayBeEnd_0 : decode cX0_mayBeEnd 0 = .ok (.aload_n 0, 1) := by decide +kernel
theorem dX0_mayBeEnd_1 : decode cX0_mayBeEnd 1 = .ok (.iload_n 2, 1) := by decide +kernel
theorem dX0_mayBeEnd_2 : decode cX0_mayBeEnd 2 = .ok (.invokevirtual 58, 3) := by decide +kernel
theorem dX0_mayBeEnd_5 : decode cX0_mayBeEnd 5 = .ok (.ifCond .eq 21, 3) := by decide +kernel
theorem dX0_mayBeEnd_8 : decode cX0_mayBeEnd 8 = .ok (.iload_n 1, 1) := by decide +kernel
theorem dX0_mayBeEnd_9 : decode cX0_mayBeEnd 9 = .ok (.ifCond .eq 13, 3) := by decide +kernel
theorem dX0_mayBeEnd_12 : decode cX0_mayBeEnd 12 = .ok (.iload_n 2, 1) := by decide +kernel
theorem dX0_mayBeEnd_13 : decode cX0_mayBeEnd 13 = .ok (.aload_n 0, 1) := by decide +kernel
theorem dX0_mayBeEnd_14 : decode cX0_mayBeEnd 14 = .ok (.getfield 27, 3) := by decide +kernel
theorem dX0_mayBeEnd_17 : decode cX0_mayBeEnd 17 = .ok (.iconst 0, 1) := by decide +kernel
theorem dX0_mayBeEnd_18 : decode cX0_mayBeEnd 18 = .ok (.iaload, 1) := by decide +kernel
theorem dX0_mayBeEnd_19 : decode cX0_mayBeEnd 19 = .ok (.if_icmp .eq 7, 3) := by decide +kernel
theorem dX0_mayBeEnd_22 : decode cX0_mayBeEnd 22 = .ok (.iconst 1, 1) := by decide +kernel
theorem dX0_mayBeEnd_23 : decode cX0_mayBeEnd 23 = .ok (.goto 4, 3) := by decide +kernel
theorem dX0_mayBeEnd_26 : decode cX0_mayBeEnd 26 = .ok (.iconst 0, 1) := by decide +kernel
theorem dX0_mayBeEnd_27 : decode cX0_mayBeEnd 27 = .ok (.ireturn, 1) := by decide +kernel
theorem dX0_takeItem_0 : decode cX0_takeItem 0 = .ok (.iload_n 1, 1) := by decide +kernel
theorem dX0_takeItem_1 : decode cX0_takeItem 1 = .ok (.lookupswitch 98 #[(100, 65), (109, 72), (114, 58), (118, 51), (119, 85)], 51) := by decide +kernel
theorem dX0_takeItem_52 : decode cX0_takeItem 52 = .ok (.aload_n 0, 1) := by decide +kernel
theorem dX0_takeItem_53 : decode cX0_takeItem 53 = .ok (.invokevirtual 111, 3) := by decide +kernel
theorem dX0_takeItem_56 : decode cX0_takeItem 56 = .ok (.goto 53, 3) := by decide +kernel
theorem dX0_takeItem_59 : decode cX0_takeItem 59 = .ok (.aload_n 0, 1) := by decide +kernel
theorem dX0_takeItem_60 : decode cX0_takeItem 60 = .ok (.invokevirtual 114, 3) := by decide +kernel
theorem dX0_takeItem_63 : decode cX0_takeItem 63 = .ok (.goto 46, 3) := by decide +kernel
theorem dX0_takeItem_66 : decode cX0_takeItem 66 = .ok (.aload_n 0, 1) := by decide +kernel
theorem dX0_takeItem_67 : decode cX0_takeItem 67 = .ok (.invokevirtual 117, 3) := by decide +kernel
theorem dX0_takeItem_70 : decode cX0_takeItem 70 = .ok (.goto 39, 3) := by decide +kernel
theorem dX0_takeItem_73 : decode cX0_takeItem 73 = .ok (.aload_n 0, 1) := by decide +kernel
theorem dX0_takeItem_74 : decode cX0_takeItem 74 = .ok (.aload_n 0, 1) := by decide +kernel
theorem dX0_takeItem_75 : decode cX0_takeItem 75 = .ok (.getfield 27, 3) := by decide +kernel
theorem dX0_takeItem_78 : decode cX0_takeItem 78 = .ok (.iconst 0, 1) := by decide +kernel
theorem dX0_takeItem_79 : decode cX0_takeItem 79 = .ok (.iaload, 1) := by decide +kernel
theorem dX0_takeItem_80 : decode cX0_takeItem 80 = .ok (.putfield 40, 3) := by decide +kernel
theorem dX0_takeItem_83 : decode cX0_takeItem 83 = .ok (.goto 26, 3) := by decide +kernel
theorem dX0_takeItem_86 : decode cX0_takeItem 86 = .ok (.aload_n 0, 1) := by decide +kernel
theorem dX0_takeItem_87 : decode cX0_takeItem 87 = .ok (.aload_n 0, 1) := by decide +kernel
theorem dX0_takeItem_88 : decode cX0_takeItem 88 = .ok (.getfield 27, 3) := by decide +kernel
theorem dX0_takeItem_91 : decode cX0_takeItem 91 = .ok (.iconst 0, 1) := by decide +kernel
theorem dX0_takeItem_92 : decode cX0_takeItem 92 = .ok (.iaload, 1) := by decide +kernel
theorem dX0_takeItem_93 : decode cX0_takeItem 93 = .ok (.putfield 43, 3) := by decide +kernel
theorem dX0_takeItem_96 : decode cX0_takeItem 96 = .ok (.goto 13, 3) := by decide +kernel
theorem dX0_takeItem_99 : decode cX0_takeItem 99 = .ok (.aload_n 0, 1) := by decide +kernel
theorem dX0_takeItem_100 : decode cX0_takeItem 100 = .ok (.aload_n 0, 1) := by decide +kernel
theorem dX0_takeItem_101 : decode cX0_takeItem 101 = .ok (.getfield 27, 3) := by decide +kernel
theorem dX0_takeItem_104 : decode cX0_takeItem 104 = .ok (.iconst 0, 1) := by decide +kernel
theorem dX0_takeItem_105 : decode cX0_takeItem 105 = .ok (.iaload, 1) := by decide +kernel
theorem dX0_takeItem_106 : decode cX0_takeItem 106 = .ok (.putfield 46, 3) := by decide +kernel
theorem dX0_takeItem_109 : decode cX0_takeItem 109 = .ok (.iload_n 1, 1) := by decide +kernel
theorem dX0_takeItem_110 : decode cX0_takeItem 110 = .ok (.invokestatic 89, 3) := by decide +kernel
theorem dX0_takeItem_113 : decode cX0_takeItem 113 = .ok (.ifCond .eq 16, 3) := by decide +kernel
theorem dX0_takeItem_116 : decode cX0_takeItem 116 = .ok (.aload_n 0, 1) := by decide +kernel
theorem dX0_takeItem_117 : decode cX0_takeItem 117 = .ok (.dup, 1) := by decide +kernel
theorem dX0_takeItem_118 : decode cX0_takeItem 118 = .ok (.getfield 49, 3) := by decide +kernel
theorem dX0_takeItem_121 : decode cX0_takeItem 121 = .ok (.iload_n 1, 1) := by decide +kernel
theorem dX0_takeItem_122 : decode cX0_takeItem 122 = .ok (.invokestatic 100, 3) := by decide +kernel
theorem dX0_takeItem_125 : decode cX0_takeItem 125 = .ok (.ior, 1) := by decide +kernel
theorem dX0_takeItem_126 : decode cX0_takeItem 126 = .ok (.putfield 49, 3) := by decide +kernel
theorem dX0_takeItem_129 : decode cX0_takeItem 129 = .ok (.return_, 1) := by decide +kernel
theorem dX0_takeVillage_0 : decode cX0_takeVillage 0 = .ok (.aload_n 0, 1) := by decide +kernel
theorem dX0_takeVillage_1 : decode cX0_takeVillage 1 = .ok (.getfield 33, 3) := by decide +kernel
theorem dX0_takeVillage_4 : decode cX0_takeVillage 4 = .ok (.istore_n 1, 1) := by decide +kernel
theorem dX0_takeVillage_5 : decode cX0_takeVillage 5 = .ok (.iconst 0, 1) := by decide +kernel
theorem dX0_takeVillage_6 : decode cX0_takeVillage 6 = .ok (.iload_n 1, 1) := by decide +kernel
theorem dX0_takeVillage_7 : decode cX0_takeVillage 7 = .ok (.if_icmp .gt 55, 3) := by decide +kernel
theorem dX0_takeVillage_10 : decode cX0_takeVillage 10 = .ok (.iload_n 1, 1) := by decide +kernel
theorem dX0_takeVillage_11 : decode cX0_takeVillage 11 = .ok (.bipush 6, 2) := by decide +kernel
theorem dX0_takeVillage_13 : decode cX0_takeVillage 13 = .ok (.if_icmp .ge 49, 3) := by decide +kernel
theorem dX0_takeVillage_16 : decode cX0_takeVillage 16 = .ok (.aload_n 0, 1) := by decide +kernel
theorem dX0_takeVillage_17 : decode cX0_takeVillage 17 = .ok (.getfield 9, 3) := by decide +kernel
theorem dX0_takeVillage_20 : decode cX0_takeVillage 20 = .ok (.iload_n 1, 1) := by decide +kernel
theorem dX0_takeVillage_21 : decode cX0_takeVillage 21 = .ok (.aload_n 0, 1) := by decide +kernel
theorem dX0_takeVillage_22 : decode cX0_takeVillage 22 = .ok (.getfield 27, 3) := by decide +kernel
theorem dX0_takeVillage_25 : decode cX0_takeVillage 25 = .ok (.iconst 0, 1) := by decide +kernel
theorem dX0_takeVillage_26 : decode cX0_takeVillage 26 = .ok (.iaload, 1) := by decide +kernel
theorem dX0_takeVillage_27 : decode cX0_takeVillage 27 = .ok (.iastore, 1) := by decide +kernel
theorem dX0_takeVillage_28 : decode cX0_takeVillage 28 = .ok (.aload_n 0, 1) := by decide +kernel
theorem dX0_takeVillage_29 : decode cX0_takeVillage 29 = .ok (.getfield 15, 3) := by decide +kernel
theorem dX0_takeVillage_32 : decode cX0_takeVillage 32 = .ok (.iload_n 1, 1) := by decide +kernel
theorem dX0_takeVillage_33 : decode cX0_takeVillage 33 = .ok (.aload_n 0, 1) := by decide +kernel
theorem dX0_takeVillage_34 : decode cX0_takeVillage 34 = .ok (.getfield 27, 3) := by decide +kernel
theorem dX0_takeVillage_37 : decode cX0_takeVillage 37 = .ok (.iconst 1, 1) := by decide +kernel
theorem dX0_takeVillage_38 : decode cX0_takeVillage 38 = .ok (.iaload, 1) := by decide +kernel
theorem dX0_takeVillage_39 : decode cX0_takeVillage 39 = .ok (.iastore, 1) := by decide +kernel
theorem dX0_takeVillage_40 : decode cX0_takeVillage 40 = .ok (.aload_n 0, 1) := by decide +kernel
theorem dX0_takeVillage_41 : decode cX0_takeVillage 41 = .ok (.getfield 18, 3) := by decide +kernel
theorem dX0_takeVillage_44 : decode cX0_takeVillage 44 = .ok (.iload_n 1, 1) := by decide +kernel
theorem dX0_takeVillage_45 : decode cX0_takeVillage 45 = .ok (.aload_n 0, 1) := by decide +kernel
theorem dX0_takeVillage_46 : decode cX0_takeVillage 46 = .ok (.getfield 27, 3) := by decide +kernel
theorem dX0_takeVillage_49 : decode cX0_takeVillage 49 = .ok (.iconst 2, 1) := by decide +kernel
theorem dX0_takeVillage_50 : decode cX0_takeVillage 50 = .ok (.iaload, 1) := by decide +kernel
theorem dX0_takeVillage_51 : decode cX0_takeVillage 51 = .ok (.iastore, 1) := by decide +kernel
theorem dX0_takeVillage_52 : decode cX0_takeVillage 52 = .ok (.aload_n 0, 1) := by decide +kernel
theorem dX0_takeVillage_53 : decode cX0_takeVillage 53 = .ok (.dup, 1) := by decide +kernel
theorem dX0_takeVillage_54 : decode cX0_takeVillage 54 = .ok (.getfield 33, 3) := by decide +kernel
theorem dX0_takeVillage_57 : decode cX0_takeVillage 57 = .ok (.iconst 1, 1) := by decide +kernel
theorem dX0_takeVillage_58 : decode cX0_takeVillage 58 = .ok (.iadd, 1) := by decide +kernel
theorem dX0_takeVillage_59 : decode cX0_takeVillage 59 = .ok (.putfield 33, 3) := by decide +kernel
theorem dX0_takeVillage_62 : decode cX0_takeVillage 62 = .ok (.return_, 1) := by decide +kernel
theorem dX0_takeRoad_0 : decode cX0_takeRoad 0 = .ok (.aload_n 0, 1) := by decide +kernel
theorem dX0_takeRoad_1 : decode cX0_takeRoad 1 = .ok (.getfield 27, 3) := by decide +kernel
theorem dX0_takeRoad_4 : decode cX0_takeRoad 4 = .ok (.iconst 0, 1) := by decide +kernel
theorem dX0_takeRoad_5 : decode cX0_takeRoad 5 = .ok (.iaload, 1) := by decide +kernel
theorem dX0_takeRoad_6 : decode cX0_takeRoad 6 = .ok (.istore_n 1, 1) := by decide +kernel
theorem dX0_takeRoad_7 : decode cX0_takeRoad 7 = .ok (.aload_n 0, 1) := by decide +kernel
theorem dX0_takeRoad_8 : decode cX0_takeRoad 8 = .ok (.getfield 27, 3) := by decide +kernel
theorem dX0_takeRoad_11 : decode cX0_takeRoad 11 = .ok (.iconst 1, 1) := by decide +kernel
theorem dX0_takeRoad_12 : decode cX0_takeRoad 12 = .ok (.iaload, 1) := by decide +kernel
theorem dX0_takeRoad_13 : decode cX0_takeRoad 13 = .ok (.istore_n 2, 1) := by decide +kernel
theorem dX0_takeRoad_14 : decode cX0_takeRoad 14 = .ok (.aload_n 0, 1) := by decide +kernel
theorem dX0_takeRoad_15 : decode cX0_takeRoad 15 = .ok (.iload_n 1, 1) := by decide +kernel
theorem dX0_takeRoad_16 : decode cX0_takeRoad 16 = .ok (.invokevirtual 58, 3) := by decide +kernel
theorem dX0_takeRoad_19 : decode cX0_takeRoad 19 = .ok (.ifCond .eq 45, 3) := by decide +kernel
theorem dX0_takeRoad_22 : decode cX0_takeRoad 22 = .ok (.aload_n 0, 1) := by decide +kernel
theorem dX0_takeRoad_23 : decode cX0_takeRoad 23 = .ok (.iload_n 2, 1) := by decide +kernel
theorem dX0_takeRoad_24 : decode cX0_takeRoad 24 = .ok (.invokevirtual 58, 3) := by decide +kernel
theorem dX0_takeRoad_27 : decode cX0_takeRoad 27 = .ok (.ifCond .eq 37, 3) := by decide +kernel
theorem dX0_takeRoad_30 : decode cX0_takeRoad 30 = .ok (.aload_n 0, 1) := by decide +kernel
theorem dX0_takeRoad_31 : decode cX0_takeRoad 31 = .ok (.iload_n 1, 1) := by decide +kernel
theorem dX0_takeRoad_32 : decode cX0_takeRoad 32 = .ok (.iload_n 2, 1) := by decide +kernel
theorem dX0_takeRoad_33 : decode cX0_takeRoad 33 = .ok (.aload_n 0, 1) := by decide +kernel
theorem dX0_takeRoad_34 : decode cX0_takeRoad 34 = .ok (.getfield 27, 3) := by decide +kernel
theorem dX0_takeRoad_37 : decode cX0_takeRoad 37 = .ok (.iconst 2, 1) := by decide +kernel
theorem dX0_takeRoad_38 : decode cX0_takeRoad 38 = .ok (.iaload, 1) := by decide +kernel
theorem dX0_takeRoad_39 : decode cX0_takeRoad 39 = .ok (.invokevirtual 120, 3) := by decide +kernel
theorem dX0_takeRoad_42 : decode cX0_takeRoad 42 = .ok (.aload_n 0, 1) := by decide +kernel
theorem dX0_takeRoad_43 : decode cX0_takeRoad 43 = .ok (.iload_n 2, 1) := by decide +kernel
theorem dX0_takeRoad_44 : decode cX0_takeRoad 44 = .ok (.iload_n 1, 1) := by decide +kernel
theorem dX0_takeRoad_45 : decode cX0_takeRoad 45 = .ok (.aload_n 0, 1) := by decide +kernel
theorem dX0_takeRoad_46 : decode cX0_takeRoad 46 = .ok (.getfield 27, 3) := by decide +kernel
theorem dX0_takeRoad_49 : decode cX0_takeRoad 49 = .ok (.iconst 2, 1) := by decide +kernel
theorem dX0_takeRoad_50 : decode cX0_takeRoad 50 = .ok (.iaload, 1) := by decide +kernel
theorem dX0_takeRoad_51 : decode cX0_takeRoad 51 = .ok (.invokevirtual 120, 3) := by decide +kernel
theorem dX0_takeRoad_54 : decode cX0_takeRoad 54 = .ok (.aload_n 0, 1) := by decide +kernel
theorem dX0_takeRoad_55 : decode cX0_takeRoad 55 = .ok (.dup, 1) := by decide +kernel
theorem dX0_takeRoad_56 : decode cX0_takeRoad 56 = .ok (.getfield 37, 3) := by decide +kernel
theorem dX0_takeRoad_59 : decode cX0_takeRoad 59 = .ok (.iconst 1, 1) := by decide +kernel
theorem dX0_takeRoad_60 : decode cX0_takeRoad 60 = .ok (.iadd, 1) := by decide +kernel
theorem dX0_takeRoad_61 : decode cX0_takeRoad 61 = .ok (.putfield 37, 3) := by decide +kernel
theorem dX0_takeRoad_64 : decode cX0_takeRoad 64 = .ok (.return_, 1) := by decide +kernel
theorem dX0_takeDebt_0 : decode cX0_takeDebt 0 = .ok (.aload_n 0, 1) := by decide +kernel
theorem dX0_takeDebt_1 : decode cX0_takeDebt 1 = .ok (.getfield 27, 3) := by decide +kernel
theorem dX0_takeDebt_4 : decode cX0_takeDebt 4 = .ok (.iconst 0, 1) := by decide +kernel
theorem dX0_takeDebt_5 : decode cX0_takeDebt 5 = .ok (.iaload, 1) := by decide +kernel
theorem dX0_takeDebt_6 : decode cX0_takeDebt 6 = .ok (.istore_n 1, 1) := by decide +kernel
theorem dX0_takeDebt_7 : decode cX0_takeDebt 7 = .ok (.aload_n 0, 1) := by decide +kernel
theorem dX0_takeDebt_8 : decode cX0_takeDebt 8 = .ok (.getfield 27, 3) := by decide +kernel
theorem dX0_takeDebt_11 : decode cX0_takeDebt 11 = .ok (.iconst 1, 1) := by decide +kernel
theorem dX0_takeDebt_12 : decode cX0_takeDebt 12 = .ok (.iaload, 1) := by decide +kernel
theorem dX0_takeDebt_13 : decode cX0_takeDebt 13 = .ok (.istore_n 2, 1) := by decide +kernel
theorem dX0_takeDebt_14 : decode cX0_takeDebt 14 = .ok (.aload_n 0, 1) := by decide +kernel
theorem dX0_takeDebt_15 : decode cX0_takeDebt 15 = .ok (.iload_n 1, 1) := by decide +kernel
theorem dX0_takeDebt_16 : decode cX0_takeDebt 16 = .ok (.invokevirtual 58, 3) := by decide +kernel
theorem dX0_takeDebt_19 : decode cX0_takeDebt 19 = .ok (.ifCond .eq 41, 3) := by decide +kernel
theorem dX0_takeDebt_22 : decode cX0_takeDebt 22 = .ok (.aload_n 0, 1) := by decide +kernel
theorem dX0_takeDebt_23 : decode cX0_takeDebt 23 = .ok (.iload_n 2, 1) := by decide +kernel
theorem dX0_takeDebt_24 : decode cX0_takeDebt 24 = .ok (.invokevirtual 58, 3) := by decide +kernel
theorem dX0_takeDebt_27 : decode cX0_takeDebt 27 = .ok (.ifCond .eq 33, 3) := by decide +kernel
theorem dX0_takeDebt_30 : decode cX0_takeDebt 30 = .ok (.aload_n 0, 1) := by decide +kernel
theorem dX0_takeDebt_31 : decode cX0_takeDebt 31 = .ok (.getfield 24, 3) := by decide +kernel
theorem dX0_takeDebt_34 : decode cX0_takeDebt 34 = .ok (.iload_n 1, 1) := by decide +kernel
theorem dX0_takeDebt_35 : decode cX0_takeDebt 35 = .ok (.bipush 6, 2) := by decide +kernel
theorem dX0_takeDebt_37 : decode cX0_takeDebt 37 = .ok (.imul, 1) := by decide +kernel
theorem dX0_takeDebt_38 : decode cX0_takeDebt 38 = .ok (.iload_n 2, 1) := by decide +kernel
theorem dX0_takeDebt_39 : decode cX0_takeDebt 39 = .ok (.iadd, 1) := by decide +kernel
theorem dX0_takeDebt_40 : decode cX0_takeDebt 40 = .ok (.sipush 999, 3) := by decide +kernel
theorem dX0_takeDebt_43 : decode cX0_takeDebt 43 = .ok (.aload_n 0, 1) := by decide +kernel
theorem dX0_takeDebt_44 : decode cX0_takeDebt 44 = .ok (.iload_n 1, 1) := by decide +kernel
theorem dX0_takeDebt_45 : decode cX0_takeDebt 45 = .ok (.iload_n 2, 1) := by decide +kernel
theorem dX0_takeDebt_46 : decode cX0_takeDebt 46 = .ok (.invokevirtual 124, 3) := by decide +kernel
theorem dX0_takeDebt_49 : decode cX0_takeDebt 49 = .ok (.aload_n 0, 1) := by decide +kernel
theorem dX0_takeDebt_50 : decode cX0_takeDebt 50 = .ok (.getfield 27, 3) := by decide +kernel
theorem dX0_takeDebt_53 : decode cX0_takeDebt 53 = .ok (.iconst 2, 1) := by decide +kernel
theorem dX0_takeDebt_54 : decode cX0_takeDebt 54 = .ok (.iaload, 1) := by decide +kernel
theorem dX0_takeDebt_55 : decode cX0_takeDebt 55 = .ok (.iadd, 1) := by decide +kernel
theorem dX0_takeDebt_56 : decode cX0_takeDebt 56 = .ok (.invokestatic 128, 3) := by decide +kernel
theorem dX0_takeDebt_59 : decode cX0_takeDebt 59 = .ok (.iastore, 1) := by decide +kernel
theorem dX0_takeDebt_60 : decode cX0_takeDebt 60 = .ok (.return_, 1) := by decide +kernel
theorem dX0_shortenWay_0 : decode cX0_shortenWay 0 = .ok (.aload_n 0, 1) := by decide +kernel
theorem dX0_shortenWay_1 : decode cX0_shortenWay 1 = .ok (.iload_n 1, 1) := by decide +kernel
theorem dX0_shortenWay_2 : decode cX0_shortenWay 2 = .ok (.invokevirtual 58, 3) := by decide +kernel
theorem dX0_shortenWay_5 : decode cX0_shortenWay 5 = .ok (.ifCond .eq 37, 3) := by decide +kernel
theorem dX0_shortenWay_8 : decode cX0_shortenWay 8 = .ok (.aload_n 0, 1) := by decide +kernel
theorem dX0_shortenWay_9 : decode cX0_shortenWay 9 = .ok (.iload_n 2, 1) := by decide +kernel
theorem dX0_shortenWay_10 : decode cX0_shortenWay 10 = .ok (.invokevirtual 58, 3) := by decide +kernel
theorem dX0_shortenWay_13 : decode cX0_shortenWay 13 = .ok (.ifCond .eq 29, 3) := by decide +kernel
theorem dX0_shortenWay_16 : decode cX0_shortenWay 16 = .ok (.iload_n 1, 1) := by decide +kernel
theorem dX0_shortenWay_17 : decode cX0_shortenWay 17 = .ok (.bipush 6, 2) := by decide +kernel
theorem dX0_shortenWay_19 : decode cX0_shortenWay 19 = .ok (.imul, 1) := by decide +kernel
theorem dX0_shortenWay_20 : decode cX0_shortenWay 20 = .ok (.iload_n 2, 1) := by decide +kernel
theorem dX0_shortenWay_21 : decode cX0_shortenWay 21 = .ok (.iadd, 1) := by decide +kernel
theorem dX0_shortenWay_22 : decode cX0_shortenWay 22 = .ok (.istore 4, 2) := by decide +kernel
theorem dX0_shortenWay_24 : decode cX0_shortenWay 24 = .ok (.aload_n 0, 1) := by decide +kernel
theorem dX0_shortenWay_25 : decode cX0_shortenWay 25 = .ok (.getfield 21, 3) := by decide +kernel
theorem dX0_shortenWay_28 : decode cX0_shortenWay 28 = .ok (.iload 4, 2) := by decide +kernel
theorem dX0_shortenWay_30 : decode cX0_shortenWay 30 = .ok (.aload_n 0, 1) := by decide +kernel
theorem dX0_shortenWay_31 : decode cX0_shortenWay 31 = .ok (.getfield 21, 3) := by decide +kernel
theorem dX0_shortenWay_34 : decode cX0_shortenWay 34 = .ok (.iload 4, 2) := by decide +kernel
theorem dX0_shortenWay_36 : decode cX0_shortenWay 36 = .ok (.iaload, 1) := by decide +kernel
theorem dX0_shortenWay_37 : decode cX0_shortenWay 37 = .ok (.iload_n 3, 1) := by decide +kernel
theorem dX0_shortenWay_38 : decode cX0_shortenWay 38 = .ok (.invokestatic 128, 3) := by decide +kernel
theorem dX0_shortenWay_41 : decode cX0_shortenWay 41 = .ok (.iastore, 1) := by decide +kernel
theorem dX0_shortenWay_42 : decode cX0_shortenWay 42 = .ok (.return_, 1) := by decide +kernel
theorem dX0_findShortestWays_0 : decode cX0_findShortestWays 0 = .ok (.iconst 0, 1) := by decide +kernel
theorem dX0_findShortestWays_1 : decode cX0_findShortestWays 1 = .ok (.istore_n 1, 1) := by decide +kernel
theorem dX0_findShortestWays_2 : decode cX0_findShortestWays 2 = .ok (.iload_n 1, 1) := by decide +kernel
theorem dX0_findShortestWays_3 : decode cX0_findShortestWays 3 = .ok (.aload_n 0, 1) := by decide +kernel
theorem dX0_findShortestWays_4 : decode cX0_findShortestWays 4 = .ok (.getfield 33, 3) := by decide +kernel
theorem dX0_findShortestWays_7 : decode cX0_findShortestWays 7 = .ok (.if_icmp .ge 82, 3) := by decide +kernel
theorem dX0_findShortestWays_10 : decode cX0_findShortestWays 10 = .ok (.iconst 0, 1) := by decide +kernel
theorem dX0_findShortestWays_11 : decode cX0_findShortestWays 11 = .ok (.istore_n 2, 1) := by decide +kernel
theorem dX0_findShortestWays_12 : decode cX0_findShortestWays 12 = .ok (.iload_n 2, 1) := by decide +kernel
theorem dX0_findShortestWays_13 : decode cX0_findShortestWays 13 = .ok (.aload_n 0, 1) := by decide +kernel
theorem dX0_findShortestWays_14 : decode cX0_findShortestWays 14 = .ok (.getfield 33, 3) := by decide +kernel
theorem dX0_findShortestWays_17 : decode cX0_findShortestWays 17 = .ok (.if_icmp .ge 66, 3) := by decide +kernel
theorem dX0_findShortestWays_20 : decode cX0_findShortestWays 20 = .ok (.iconst 0, 1) := by decide +kernel
theorem dX0_findShortestWays_21 : decode cX0_findShortestWays 21 = .ok (.istore_n 3, 1) := by decide +kernel
theorem dX0_findShortestWays_22 : decode cX0_findShortestWays 22 = .ok (.iload_n 3, 1) := by decide +kernel
theorem dX0_findShortestWays_23 : decode cX0_findShortestWays 23 = .ok (.aload_n 0, 1) := by decide +kernel
theorem dX0_findShortestWays_24 : decode cX0_findShortestWays 24 = .ok (.getfield 33, 3) := by decide +kernel
theorem dX0_findShortestWays_27 : decode cX0_findShortestWays 27 = .ok (.if_icmp .ge 50, 3) := by decide +kernel
theorem dX0_findShortestWays_30 : decode cX0_findShortestWays 30 = .ok (.aload_n 0, 1) := by decide +kernel
theorem dX0_findShortestWays_31 : decode cX0_findShortestWays 31 = .ok (.iload_n 2, 1) := by decide +kernel
theorem dX0_findShortestWays_32 : decode cX0_findShortestWays 32 = .ok (.iload_n 1, 1) := by decide +kernel
theorem dX0_findShortestWays_33 : decode cX0_findShortestWays 33 = .ok (.invokevirtual 133, 3) := by decide +kernel
theorem dX0_findShortestWays_36 : decode cX0_findShortestWays 36 = .ok (.istore 4, 2) := by decide +kernel
theorem dX0_findShortestWays_38 : decode cX0_findShortestWays 38 = .ok (.aload_n 0, 1) := by decide +kernel
theorem dX0_findShortestWays_39 : decode cX0_findShortestWays 39 = .ok (.iload_n 1, 1) := by decide +kernel
theorem dX0_findShortestWays_40 : decode cX0_findShortestWays 40 = .ok (.iload_n 3, 1) := by decide +kernel
theorem dX0_findShortestWays_41 : decode cX0_findShortestWays 41 = .ok (.invokevirtual 133, 3) := by decide +kernel
theorem dX0_findShortestWays_44 : decode cX0_findShortestWays 44 = .ok (.istore 5, 2) := by decide +kernel
theorem dX0_findShortestWays_46 : decode cX0_findShortestWays 46 = .ok (.iload 4, 2) := by decide +kernel
theorem dX0_findShortestWays_48 : decode cX0_findShortestWays 48 = .ok (.bipush (-9), 2) := by decide +kernel
theorem dX0_findShortestWays_50 : decode cX0_findShortestWays 50 = .ok (.if_icmp .eq 21, 3) := by decide +kernel
theorem dX0_findShortestWays_53 : decode cX0_findShortestWays 53 = .ok (.iload 5, 2) := by decide +kernel
theorem dX0_findShortestWays_55 : decode cX0_findShortestWays 55 = .ok (.bipush (-9), 2) := by decide +kernel
theorem dX0_findShortestWays_57 : decode cX0_findShortestWays 57 = .ok (.if_icmp .eq 14, 3) := by decide +kernel
theorem dX0_findShortestWays_60 : decode cX0_findShortestWays 60 = .ok (.aload_n 0, 1) := by decide +kernel
theorem dX0_findShortestWays_61 : decode cX0_findShortestWays 61 = .ok (.iload_n 2, 1) := by decide +kernel
theorem dX0_findShortestWays_62 : decode cX0_findShortestWays 62 = .ok (.iload_n 3, 1) := by decide +kernel
theorem dX0_findShortestWays_63 : decode cX0_findShortestWays 63 = .ok (.iload 4, 2) := by decide +kernel
theorem dX0_findShortestWays_65 : decode cX0_findShortestWays 65 = .ok (.iload 5, 2) := by decide +kernel
theorem dX0_findShortestWays_67 : decode cX0_findShortestWays 67 = .ok (.iadd, 1) := by decide +kernel
theorem dX0_findShortestWays_68 : decode cX0_findShortestWays 68 = .ok (.invokevirtual 120, 3) := by decide +kernel
theorem dX0_findShortestWays_71 : decode cX0_findShortestWays 71 = .ok (.iinc 3 1, 3) := by decide +kernel
theorem dX0_findShortestWays_74 : decode cX0_findShortestWays 74 = .ok (.goto (-52), 3) := by decide +kernel
theorem dX0_findShortestWays_77 : decode cX0_findShortestWays 77 = .ok (.iinc 2 1, 3) := by decide +kernel
theorem dX0_findShortestWays_80 : decode cX0_findShortestWays 80 = .ok (.goto (-68), 3) := by decide +kernel
theorem dX0_findShortestWays_83 : decode cX0_findShortestWays 83 = .ok (.iinc 1 1, 3) := by decide +kernel
theorem dX0_findShortestWays_86 : decode cX0_findShortestWays 86 = .ok (.goto (-84), 3) := by decide +kernel
theorem dX0_findShortestWays_89 : decode cX0_findShortestWays 89 = .ok (.return_, 1) := by decide +kernel
theorem dX1_init_0 : decode cX1_init 0 = .ok (.aload_n 0, 1) := by decide +kernel
theorem dX1_init_1 : decode cX1_init 1 = .ok (.invokespecial 3, 3) := by decide +kernel
theorem dX1_init_4 : decode cX1_init 4 = .ok (.aload_n 0, 1) := by decide +kernel
theorem dX1_init_5 : decode cX1_init 5 = .ok (.bipush 6, 2) := by decide +kernel
theorem dX1_init_7 : decode cX1_init 7 = .ok (.newarray .int, 2) := by decide +kernel
theorem dX1_init_9 : decode cX1_init 9 = .ok (.putfield 9, 3) := by decide +kernel
theorem dX1_init_12 : decode cX1_init 12 = .ok (.return_, 1) := by decide +kernel
theorem dX1_find_0 : decode cX1_find 0 = .ok (.iconst 2, 1) := by decide +kernel
theorem dX1_find_1 : decode cX1_find 1 = .ok (.istore_n 2, 1) := by decide +kernel
theorem dX1_find_2 : decode cX1_find 2 = .ok (.iload_n 2, 1) := by decide +kernel
theorem dX1_find_3 : decode cX1_find 3 = .ok (.aload_n 1, 1) := by decide +kernel
theorem dX1_find_4 : decode cX1_find 4 = .ok (.getfield 15, 3) := by decide +kernel
theorem dX1_find_7 : decode cX1_find 7 = .ok (.if_icmp .gt 51, 3) := by decide +kernel
theorem dX1_find_10 : decode cX1_find 10 = .ok (.aload_n 0, 1) := by decide +kernel
theorem dX1_find_11 : decode cX1_find 11 = .ok (.iload_n 2, 1) := by decide +kernel
theorem dX1_find_12 : decode cX1_find 12 = .ok (.putfield 21, 3) := by decide +kernel
theorem dX1_find_15 : decode cX1_find 15 = .ok (.iconst 0, 1) := by decide +kernel
theorem dX1_find_16 : decode cX1_find 16 = .ok (.istore_n 3, 1) := by decide +kernel
theorem dX1_find_17 : decode cX1_find 17 = .ok (.iload_n 3, 1) := by decide +kernel
theorem dX1_find_18 : decode cX1_find 18 = .ok (.aload_n 1, 1) := by decide +kernel
theorem dX1_find_19 : decode cX1_find 19 = .ok (.getfield 15, 3) := by decide +kernel
theorem dX1_find_22 : decode cX1_find 22 = .ok (.if_icmp .ge 30, 3) := by decide +kernel
theorem dX1_find_25 : decode cX1_find 25 = .ok (.aload_n 0, 1) := by decide +kernel
theorem dX1_find_26 : decode cX1_find 26 = .ok (.getfield 9, 3) := by decide +kernel
theorem dX1_find_29 : decode cX1_find 29 = .ok (.iconst 0, 1) := by decide +kernel
theorem dX1_find_30 : decode cX1_find 30 = .ok (.iload_n 3, 1) := by decide +kernel
theorem dX1_find_31 : decode cX1_find 31 = .ok (.iastore, 1) := by decide +kernel
theorem dX1_find_32 : decode cX1_find 32 = .ok (.aload_n 0, 1) := by decide +kernel
theorem dX1_find_33 : decode cX1_find 33 = .ok (.aload_n 1, 1) := by decide +kernel
theorem dX1_find_34 : decode cX1_find 34 = .ok (.iconst 1, 1) := by decide +kernel
theorem dX1_find_35 : decode cX1_find 35 = .ok (.iconst 1, 1) := by decide +kernel
theorem dX1_find_36 : decode cX1_find 36 = .ok (.iload_n 3, 1) := by decide +kernel
theorem dX1_find_37 : decode cX1_find 37 = .ok (.ishl, 1) := by decide +kernel
theorem dX1_find_38 : decode cX1_find 38 = .ok (.invokevirtual 24, 3) := by decide +kernel
theorem dX1_find_41 : decode cX1_find 41 = .ok (.ifCond .eq 5, 3) := by decide +kernel
theorem dX1_find_44 : decode cX1_find 44 = .ok (.iconst 1, 1) := by decide +kernel
theorem dX1_find_45 : decode cX1_find 45 = .ok (.ireturn, 1) := by decide +kernel
theorem dX1_find_46 : decode cX1_find 46 = .ok (.iinc 3 1, 3) := by decide +kernel
theorem dX1_find_49 : decode cX1_find 49 = .ok (.goto (-32), 3) := by decide +kernel
theorem dX1_find_52 : decode cX1_find 52 = .ok (.iinc 2 1, 3) := by decide +kernel
theorem dX1_find_55 : decode cX1_find 55 = .ok (.goto (-53), 3) := by decide +kernel
theorem dX1_find_58 : decode cX1_find 58 = .ok (.iconst 0, 1) := by decide +kernel
theorem dX1_find_59 : decode cX1_find 59 = .ok (.ireturn, 1) := by decide +kernel
theorem dX1_at_0 : decode cX1_at 0 = .ok (.iconst 0, 1) := by decide +kernel
theorem dX1_at_1 : decode cX1_at 1 = .ok (.iload_n 1, 1) := by decide +kernel
theorem dX1_at_2 : decode cX1_at 2 = .ok (.if_icmp .gt 29, 3) := by decide +kernel
theorem dX1_at_5 : decode cX1_at 5 = .ok (.iload_n 1, 1) := by decide +kernel
theorem dX1_at_6 : decode cX1_at 6 = .ok (.aload_n 0, 1) := by decide +kernel
theorem dX1_at_7 : decode cX1_at 7 = .ok (.getfield 21, 3) := by decide +kernel
theorem dX1_at_10 : decode cX1_at 10 = .ok (.if_icmp .ge 21, 3) := by decide +kernel
theorem dX1_at_13 : decode cX1_at 13 = .ok (.iload_n 1, 1) := by decide +kernel
theorem dX1_at_14 : decode cX1_at 14 = .ok (.aload_n 0, 1) := by decide +kernel
theorem dX1_at_15 : decode cX1_at 15 = .ok (.getfield 9, 3) := by decide +kernel
theorem dX1_at_18 : decode cX1_at 18 = .ok (.arraylength, 1) := by decide +kernel
theorem dX1_at_19 : decode cX1_at 19 = .ok (.if_icmp .ge 12, 3) := by decide +kernel
theorem dX1_at_22 : decode cX1_at 22 = .ok (.aload_n 0, 1) := by decide +kernel
theorem dX1_at_23 : decode cX1_at 23 = .ok (.getfield 9, 3) := by decide +kernel
theorem dX1_at_26 : decode cX1_at 26 = .ok (.iload_n 1, 1) := by decide +kernel
theorem dX1_at_27 : decode cX1_at 27 = .ok (.iaload, 1) := by decide +kernel
theorem dX1_at_28 : decode cX1_at 28 = .ok (.goto 5, 3) := by decide +kernel
theorem dX1_at_31 : decode cX1_at 31 = .ok (.bipush (-9), 2) := by decide +kernel
theorem dX1_at_33 : decode cX1_at 33 = .ok (.ireturn, 1) := by decide +kernel
theorem dX1_leastDebt_0 : decode cX1_leastDebt 0 = .ok (.sipush 999, 3) := by decide +kernel
theorem dX1_leastDebt_3 : decode cX1_leastDebt 3 = .ok (.istore_n 2, 1) := by decide +kernel
theorem dX1_leastDebt_4 : decode cX1_leastDebt 4 = .ok (.iconst 0, 1) := by decide +kernel
theorem dX1_leastDebt_5 : decode cX1_leastDebt 5 = .ok (.istore_n 3, 1) := by decide +kernel
theorem dX1_leastDebt_6 : decode cX1_leastDebt 6 = .ok (.iload_n 3, 1) := by decide +kernel
theorem dX1_leastDebt_7 : decode cX1_leastDebt 7 = .ok (.aload_n 0, 1) := by decide +kernel
theorem dX1_leastDebt_8 : decode cX1_leastDebt 8 = .ok (.getfield 21, 3) := by decide +kernel
theorem dX1_leastDebt_11 : decode cX1_leastDebt 11 = .ok (.if_icmp .ge 48, 3) := by decide +kernel
theorem dX1_leastDebt_14 : decode cX1_leastDebt 14 = .ok (.iload_n 3, 1) := by decide +kernel
theorem dX1_leastDebt_15 : decode cX1_leastDebt 15 = .ok (.iconst 1, 1) := by decide +kernel
theorem dX1_leastDebt_16 : decode cX1_leastDebt 16 = .ok (.iadd, 1) := by decide +kernel
theorem dX1_leastDebt_17 : decode cX1_leastDebt 17 = .ok (.aload_n 0, 1) := by decide +kernel
theorem dX1_leastDebt_18 : decode cX1_leastDebt 18 = .ok (.getfield 21, 3) := by decide +kernel
theorem dX1_leastDebt_21 : decode cX1_leastDebt 21 = .ok (.if_icmp .ge 9, 3) := by decide +kernel
theorem dX1_leastDebt_24 : decode cX1_leastDebt 24 = .ok (.iload_n 3, 1) := by decide +kernel
theorem dX1_leastDebt_25 : decode cX1_leastDebt 25 = .ok (.iconst 1, 1) := by decide +kernel
theorem dX1_leastDebt_26 : decode cX1_leastDebt 26 = .ok (.iadd, 1) := by decide +kernel
theorem dX1_leastDebt_27 : decode cX1_leastDebt 27 = .ok (.goto 4, 3) := by decide +kernel
theorem dX1_leastDebt_30 : decode cX1_leastDebt 30 = .ok (.iconst 0, 1) := by decide +kernel
theorem dX1_leastDebt_31 : decode cX1_leastDebt 31 = .ok (.istore 4, 2) := by decide +kernel
theorem dX1_leastDebt_33 : decode cX1_leastDebt 33 = .ok (.iload_n 2, 1) := by decide +kernel
theorem dX1_leastDebt_34 : decode cX1_leastDebt 34 = .ok (.aload_n 1, 1) := by decide +kernel
theorem dX1_leastDebt_35 : decode cX1_leastDebt 35 = .ok (.aload_n 0, 1) := by decide +kernel
theorem dX1_leastDebt_36 : decode cX1_leastDebt 36 = .ok (.iload_n 3, 1) := by decide +kernel
theorem dX1_leastDebt_37 : decode cX1_leastDebt 37 = .ok (.invokevirtual 28, 3) := by decide +kernel
theorem dX1_leastDebt_40 : decode cX1_leastDebt 40 = .ok (.aload_n 0, 1) := by decide +kernel
theorem dX1_leastDebt_41 : decode cX1_leastDebt 41 = .ok (.iload 4, 2) := by decide +kernel
theorem dX1_leastDebt_43 : decode cX1_leastDebt 43 = .ok (.invokevirtual 28, 3) := by decide +kernel
theorem dX1_leastDebt_46 : decode cX1_leastDebt 46 = .ok (.invokevirtual 32, 3) := by decide +kernel
theorem dX1_leastDebt_49 : decode cX1_leastDebt 49 = .ok (.invokestatic 36, 3) := by decide +kernel
theorem dX1_leastDebt_52 : decode cX1_leastDebt 52 = .ok (.istore_n 2, 1) := by decide +kernel
theorem dX1_leastDebt_53 : decode cX1_leastDebt 53 = .ok (.iinc 3 1, 3) := by decide +kernel
theorem dX1_leastDebt_56 : decode cX1_leastDebt 56 = .ok (.goto (-50), 3) := by decide +kernel
theorem dX1_leastDebt_59 : decode cX1_leastDebt 59 = .ok (.iload_n 2, 1) := by decide +kernel
theorem dX1_leastDebt_60 : decode cX1_leastDebt 60 = .ok (.ireturn, 1) := by decide +kernel
theorem dX1_goOn_0 : decode cX1_goOn 0 = .ok (.iload_n 2, 1) := by decide +kernel
theorem dX1_goOn_1 : decode cX1_goOn 1 = .ok (.iconst 1, 1) := by decide +kernel
theorem dX1_goOn_2 : decode cX1_goOn 2 = .ok (.if_icmp .lt 20, 3) := by decide +kernel
theorem dX1_goOn_5 : decode cX1_goOn 5 = .ok (.iload_n 2, 1) := by decide +kernel
theorem dX1_goOn_6 : decode cX1_goOn 6 = .ok (.aload_n 0, 1) := by decide +kernel
theorem dX1_goOn_7 : decode cX1_goOn 7 = .ok (.getfield 21, 3) := by decide +kernel
theorem dX1_goOn_10 : decode cX1_goOn 10 = .ok (.if_icmp .gt 12, 3) := by decide +kernel
theorem dX1_goOn_13 : decode cX1_goOn 13 = .ok (.iload_n 2, 1) := by decide +kernel
theorem dX1_goOn_14 : decode cX1_goOn 14 = .ok (.aload_n 0, 1) := by decide +kernel
theorem dX1_goOn_15 : decode cX1_goOn 15 = .ok (.getfield 9, 3) := by decide +kernel
theorem dX1_goOn_18 : decode cX1_goOn 18 = .ok (.arraylength, 1) := by decide +kernel
theorem dX1_goOn_19 : decode cX1_goOn 19 = .ok (.if_icmp .le 5, 3) := by decide +kernel
theorem dX1_goOn_22 : decode cX1_goOn 22 = .ok (.iconst 0, 1) := by decide +kernel
theorem dX1_goOn_23 : decode cX1_goOn 23 = .ok (.ireturn, 1) := by decide +kernel
theorem dX1_goOn_24 : decode cX1_goOn 24 = .ok (.aload_n 0, 1) := by decide +kernel
theorem dX1_goOn_25 : decode cX1_goOn 25 = .ok (.getfield 9, 3) := by decide +kernel
theorem dX1_goOn_28 : decode cX1_goOn 28 = .ok (.iload_n 2, 1) := by decide +kernel
theorem dX1_goOn_29 : decode cX1_goOn 29 = .ok (.iconst 1, 1) := by decide +kernel
theorem dX1_goOn_30 : decode cX1_goOn 30 = .ok (.isub, 1) := by decide +kernel
theorem dX1_goOn_31 : decode cX1_goOn 31 = .ok (.iaload, 1) := by decide +kernel
theorem dX1_goOn_32 : decode cX1_goOn 32 = .ok (.istore 4, 2) := by decide +kernel
theorem dX1_goOn_34 : decode cX1_goOn 34 = .ok (.iload_n 2, 1) := by decide +kernel
theorem dX1_goOn_35 : decode cX1_goOn 35 = .ok (.aload_n 0, 1) := by decide +kernel
theorem dX1_goOn_36 : decode cX1_goOn 36 = .ok (.getfield 21, 3) := by decide +kernel
theorem dX1_goOn_39 : decode cX1_goOn 39 = .ok (.if_icmp .eq 12, 3) := by decide +kernel
theorem dX1_goOn_42 : decode cX1_goOn 42 = .ok (.iload_n 2, 1) := by decide +kernel
theorem dX1_goOn_43 : decode cX1_goOn 43 = .ok (.aload_n 0, 1) := by decide +kernel
theorem dX1_goOn_44 : decode cX1_goOn 44 = .ok (.getfield 9, 3) := by decide +kernel
theorem dX1_goOn_47 : decode cX1_goOn 47 = .ok (.arraylength, 1) := by decide +kernel
theorem dX1_goOn_48 : decode cX1_goOn 48 = .ok (.if_icmp .ne 24, 3) := by decide +kernel
theorem dX1_goOn_51 : decode cX1_goOn 51 = .ok (.aload_n 1, 1) := by decide +kernel
theorem dX1_goOn_52 : decode cX1_goOn 52 = .ok (.iload 4, 2) := by decide +kernel
theorem dX1_goOn_54 : decode cX1_goOn 54 = .ok (.aload_n 0, 1) := by decide +kernel
theorem dX1_goOn_55 : decode cX1_goOn 55 = .ok (.getfield 9, 3) := by decide +kernel
theorem dX1_goOn_58 : decode cX1_goOn 58 = .ok (.iconst 0, 1) := by decide +kernel
theorem dX1_goOn_59 : decode cX1_goOn 59 = .ok (.iaload, 1) := by decide +kernel
theorem dX1_goOn_60 : decode cX1_goOn 60 = .ok (.invokevirtual 32, 3) := by decide +kernel
theorem dX1_goOn_63 : decode cX1_goOn 63 = .ok (.ifCond .le 7, 3) := by decide +kernel
theorem dX1_goOn_66 : decode cX1_goOn 66 = .ok (.iconst 1, 1) := by decide +kernel
theorem dX1_goOn_67 : decode cX1_goOn 67 = .ok (.goto 4, 3) := by decide +kernel
theorem dX1_goOn_70 : decode cX1_goOn 70 = .ok (.iconst 0, 1) := by decide +kernel
theorem dX1_goOn_71 : decode cX1_goOn 71 = .ok (.ireturn, 1) := by decide +kernel
theorem dX1_goOn_72 : decode cX1_goOn 72 = .ok (.aload_n 0, 1) := by decide +kernel
theorem dX1_goOn_73 : decode cX1_goOn 73 = .ok (.getfield 9, 3) := by decide +kernel
theorem dX1_goOn_76 : decode cX1_goOn 76 = .ok (.iconst 0, 1) := by decide +kernel
theorem dX1_goOn_77 : decode cX1_goOn 77 = .ok (.iaload, 1) := by decide +kernel
theorem dX1_goOn_78 : decode cX1_goOn 78 = .ok (.iconst 1, 1) := by decide +kernel
theorem dX1_goOn_79 : decode cX1_goOn 79 = .ok (.iadd, 1) := by decide +kernel
theorem dX1_goOn_80 : decode cX1_goOn 80 = .ok (.istore 5, 2) := by decide +kernel
theorem dX1_goOn_82 : decode cX1_goOn 82 = .ok (.iload 5, 2) := by decide +kernel
theorem dX1_goOn_84 : decode cX1_goOn 84 = .ok (.aload_n 1, 1) := by decide +kernel
theorem dX1_goOn_85 : decode cX1_goOn 85 = .ok (.getfield 15, 3) := by decide +kernel
theorem dX1_goOn_88 : decode cX1_goOn 88 = .ok (.if_icmp .ge 56, 3) := by decide +kernel
theorem dX1_goOn_91 : decode cX1_goOn 91 = .ok (.iload_n 3, 1) := by decide +kernel
theorem dX1_goOn_92 : decode cX1_goOn 92 = .ok (.iload 5, 2) := by decide +kernel
theorem dX1_goOn_94 : decode cX1_goOn 94 = .ok (.ishr, 1) := by decide +kernel
theorem dX1_goOn_95 : decode cX1_goOn 95 = .ok (.iconst 1, 1) := by decide +kernel
theorem dX1_goOn_96 : decode cX1_goOn 96 = .ok (.iand, 1) := by decide +kernel
theorem dX1_goOn_97 : decode cX1_goOn 97 = .ok (.ifCond .ne 41, 3) := by decide +kernel
theorem dX1_goOn_100 : decode cX1_goOn 100 = .ok (.aload_n 1, 1) := by decide +kernel
theorem dX1_goOn_101 : decode cX1_goOn 101 = .ok (.iload 4, 2) := by decide +kernel
theorem dX1_goOn_103 : decode cX1_goOn 103 = .ok (.iload 5, 2) := by decide +kernel
theorem dX1_goOn_105 : decode cX1_goOn 105 = .ok (.invokevirtual 32, 3) := by decide +kernel
theorem dX1_goOn_108 : decode cX1_goOn 108 = .ok (.ifCond .le 30, 3) := by decide +kernel
theorem dX1_goOn_111 : decode cX1_goOn 111 = .ok (.aload_n 0, 1) := by decide +kernel
theorem dX1_goOn_112 : decode cX1_goOn 112 = .ok (.getfield 9, 3) := by decide +kernel
theorem dX1_goOn_115 : decode cX1_goOn 115 = .ok (.iload_n 2, 1) := by decide +kernel
theorem dX1_goOn_116 : decode cX1_goOn 116 = .ok (.iload 5, 2) := by decide +kernel
theorem dX1_goOn_118 : decode cX1_goOn 118 = .ok (.iastore, 1) := by decide +kernel
theorem dX1_goOn_119 : decode cX1_goOn 119 = .ok (.aload_n 0, 1) := by decide +kernel
theorem dX1_goOn_120 : decode cX1_goOn 120 = .ok (.aload_n 1, 1) := by decide +kernel
theorem dX1_goOn_121 : decode cX1_goOn 121 = .ok (.iload_n 2, 1) := by decide +kernel
theorem dX1_goOn_122 : decode cX1_goOn 122 = .ok (.iconst 1, 1) := by decide +kernel
theorem dX1_goOn_123 : decode cX1_goOn 123 = .ok (.iadd, 1) := by decide +kernel
theorem dX1_goOn_124 : decode cX1_goOn 124 = .ok (.iload_n 3, 1) := by decide +kernel
theorem dX1_goOn_125 : decode cX1_goOn 125 = .ok (.iconst 1, 1) := by decide +kernel
theorem dX1_goOn_126 : decode cX1_goOn 126 = .ok (.iload 5, 2) := by decide +kernel
theorem dX1_goOn_128 : decode cX1_goOn 128 = .ok (.ishl, 1) := by decide +kernel
theorem dX1_goOn_129 : decode cX1_goOn 129 = .ok (.ior, 1) := by decide +kernel
theorem dX1_goOn_130 : decode cX1_goOn 130 = .ok (.invokevirtual 24, 3) := by decide +kernel
theorem dX1_goOn_133 : decode cX1_goOn 133 = .ok (.ifCond .eq 5, 3) := by decide +kernel
theorem dX1_goOn_136 : decode cX1_goOn 136 = .ok (.iconst 1, 1) := by decide +kernel
theorem dX1_goOn_137 : decode cX1_goOn 137 = .ok (.ireturn, 1) := by decide +kernel
theorem dX1_goOn_138 : decode cX1_goOn 138 = .ok (.iinc 5 1, 3) := by decide +kernel
theorem dX1_goOn_141 : decode cX1_goOn 141 = .ok (.goto (-59), 3) := by decide +kernel
theorem dX1_goOn_144 : decode cX1_goOn 144 = .ok (.iconst 0, 1) := by decide +kernel
theorem dX1_goOn_145 : decode cX1_goOn 145 = .ok (.ireturn, 1) := by decide +kernel
theorem dX2_init_0 : decode cX2_init 0 = .ok (.aload_n 0, 1) := by decide +kernel
theorem dX2_init_1 : decode cX2_init 1 = .ok (.invokespecial 3, 3) := by decide +kernel
theorem dX2_init_4 : decode cX2_init 4 = .ok (.aload_n 0, 1) := by decide +kernel
theorem dX2_init_5 : decode cX2_init 5 = .ok (.sipush 308, 3) := by decide +kernel
theorem dX2_init_8 : decode cX2_init 8 = .ok (.newarray .int, 2) := by decide +kernel
theorem dX2_init_10 : decode cX2_init 10 = .ok (.putfield 9, 3) := by decide +kernel
theorem dX2_init_13 : decode cX2_init 13 = .ok (.return_, 1) := by decide +kernel
theorem dX2_begin_0 : decode cX2_begin 0 = .ok (.aload_n 0, 1) := by decide +kernel
theorem dX2_begin_1 : decode cX2_begin 1 = .ok (.getfield 9, 3) := by decide +kernel
theorem dX2_begin_4 : decode cX2_begin 4 = .ok (.iconst 0, 1) := by decide +kernel
theorem dX2_begin_5 : decode cX2_begin 5 = .ok (.invokestatic 15, 3) := by decide +kernel
theorem dX2_begin_8 : decode cX2_begin 8 = .ok (.aload_n 0, 1) := by decide +kernel
theorem dX2_begin_9 : decode cX2_begin 9 = .ok (.iconst 0, 1) := by decide +kernel
theorem dX2_begin_10 : decode cX2_begin 10 = .ok (.putfield 21, 3) := by decide +kernel
theorem dX2_begin_13 : decode cX2_begin 13 = .ok (.aload_n 0, 1) := by decide +kernel
theorem dX2_begin_14 : decode cX2_begin 14 = .ok (.iconst 0, 1) := by decide +kernel
theorem dX2_begin_15 : decode cX2_begin 15 = .ok (.aload_n 1, 1) := by decide +kernel
theorem dX2_begin_16 : decode cX2_begin 16 = .ok (.getfield 25, 3) := by decide +kernel
theorem dX2_begin_19 : decode cX2_begin 19 = .ok (.ifCond .le 7, 3) := by decide +kernel
theorem dX2_begin_22 : decode cX2_begin 22 = .ok (.iconst 0, 1) := by decide +kernel
theorem dX2_begin_23 : decode cX2_begin 23 = .ok (.goto 5, 3) := by decide +kernel
theorem dX2_begin_26 : decode cX2_begin 26 = .ok (.bipush (-9), 2) := by decide +kernel
theorem dX2_begin_28 : decode cX2_begin 28 = .ok (.invokevirtual 30, 3) := by decide +kernel
theorem dX2_begin_31 : decode cX2_begin 31 = .ok (.aload_n 0, 1) := by decide +kernel
theorem dX2_begin_32 : decode cX2_begin 32 = .ok (.iconst 2, 1) := by decide +kernel
theorem dX2_begin_33 : decode cX2_begin 33 = .ok (.aload_n 1, 1) := by decide +kernel
theorem dX2_begin_34 : decode cX2_begin 34 = .ok (.getfield 34, 3) := by decide +kernel
theorem dX2_begin_37 : decode cX2_begin 37 = .ok (.invokevirtual 30, 3) := by decide +kernel
theorem dX2_begin_40 : decode cX2_begin 40 = .ok (.iconst 0, 1) := by decide +kernel
theorem dX2_begin_41 : decode cX2_begin 41 = .ok (.istore_n 2, 1) := by decide +kernel
theorem dX2_begin_42 : decode cX2_begin 42 = .ok (.iload_n 2, 1) := by decide +kernel
theorem dX2_begin_43 : decode cX2_begin 43 = .ok (.aload_n 1, 1) := by decide +kernel
theorem dX2_begin_44 : decode cX2_begin 44 = .ok (.getfield 25, 3) := by decide +kernel
theorem dX2_begin_47 : decode cX2_begin 47 = .ok (.if_icmp .ge 21, 3) := by decide +kernel
theorem dX2_begin_50 : decode cX2_begin 50 = .ok (.aload_n 0, 1) := by decide +kernel
theorem dX2_begin_51 : decode cX2_begin 51 = .ok (.iconst 4, 1) := by decide +kernel
theorem dX2_begin_52 : decode cX2_begin 52 = .ok (.iload_n 2, 1) := by decide +kernel
theorem dX2_begin_53 : decode cX2_begin 53 = .ok (.iadd, 1) := by decide +kernel
theorem dX2_begin_54 : decode cX2_begin 54 = .ok (.aload_n 1, 1) := by decide +kernel
theorem dX2_begin_55 : decode cX2_begin 55 = .ok (.iload_n 2, 1) := by decide +kernel
theorem dX2_begin_56 : decode cX2_begin 56 = .ok (.invokevirtual 37, 3) := by decide +kernel
theorem dX2_begin_59 : decode cX2_begin 59 = .ok (.invokevirtual 30, 3) := by decide +kernel
theorem dX2_begin_62 : decode cX2_begin 62 = .ok (.iinc 2 1, 3) := by decide +kernel
theorem dX2_begin_65 : decode cX2_begin 65 = .ok (.goto (-23), 3) := by decide +kernel
theorem dX2_begin_68 : decode cX2_begin 68 = .ok (.return_, 1) := by decide +kernel
theorem dX2_get_0 : decode cX2_get 0 = .ok (.iconst 0, 1) := by decide +kernel
theorem dX2_get_1 : decode cX2_get 1 = .ok (.iload_n 1, 1) := by decide +kernel
theorem dX2_get_2 : decode cX2_get 2 = .ok (.if_icmp .gt 18, 3) := by decide +kernel
theorem dX2_get_5 : decode cX2_get 5 = .ok (.iload_n 1, 1) := by decide +kernel
theorem dX2_get_6 : decode cX2_get 6 = .ok (.bipush 28, 2) := by decide +kernel
theorem dX2_get_8 : decode cX2_get 8 = .ok (.if_icmp .ge 12, 3) := by decide +kernel
theorem dX2_get_11 : decode cX2_get 11 = .ok (.aload_n 0, 1) := by decide +kernel
theorem dX2_get_12 : decode cX2_get 12 = .ok (.getfield 9, 3) := by decide +kernel
theorem dX2_get_15 : decode cX2_get 15 = .ok (.iload_n 1, 1) := by decide +kernel
theorem dX2_get_16 : decode cX2_get 16 = .ok (.iaload, 1) := by decide +kernel
theorem dX2_get_17 : decode cX2_get 17 = .ok (.goto 4, 3) := by decide +kernel
theorem dX2_get_20 : decode cX2_get 20 = .ok (.iconst 0, 1) := by decide +kernel
theorem dX2_get_21 : decode cX2_get 21 = .ok (.ireturn, 1) := by decide +kernel
theorem dX2_put_0 : decode cX2_put 0 = .ok (.iconst 0, 1) := by decide +kernel
theorem dX2_put_1 : decode cX2_put 1 = .ok (.iload_n 1, 1) := by decide +kernel
theorem dX2_put_2 : decode cX2_put 2 = .ok (.if_icmp .gt 16, 3) := by decide +kernel
theorem dX2_put_5 : decode cX2_put 5 = .ok (.iload_n 1, 1) := by decide +kernel
theorem dX2_put_6 : decode cX2_put 6 = .ok (.bipush 28, 2) := by decide +kernel
theorem dX2_put_8 : decode cX2_put 8 = .ok (.if_icmp .ge 10, 3) := by decide +kernel
theorem dX2_put_11 : decode cX2_put 11 = .ok (.aload_n 0, 1) := by decide +kernel
theorem dX2_put_12 : decode cX2_put 12 = .ok (.getfield 9, 3) := by decide +kernel
theorem dX2_put_15 : decode cX2_put 15 = .ok (.iload_n 1, 1) := by decide +kernel
theorem dX2_put_16 : decode cX2_put 16 = .ok (.iload_n 2, 1) := by decide +kernel
theorem dX2_put_17 : decode cX2_put 17 = .ok (.iastore, 1) := by decide +kernel
theorem dX2_put_18 : decode cX2_put 18 = .ok (.return_, 1) := by decide +kernel
theorem dX2_add_0 : decode cX2_add 0 = .ok (.aload_n 0, 1) := by decide +kernel
theorem dX2_add_1 : decode cX2_add 1 = .ok (.iload_n 1, 1) := by decide +kernel
theorem dX2_add_2 : decode cX2_add 2 = .ok (.aload_n 0, 1) := by decide +kernel
theorem dX2_add_3 : decode cX2_add 3 = .ok (.iload_n 1, 1) := by decide +kernel
theorem dX2_add_4 : decode cX2_add 4 = .ok (.invokevirtual 41, 3) := by decide +kernel
theorem dX2_add_7 : decode cX2_add 7 = .ok (.iload_n 2, 1) := by decide +kernel
theorem dX2_add_8 : decode cX2_add 8 = .ok (.iadd, 1) := by decide +kernel
theorem dX2_add_9 : decode cX2_add 9 = .ok (.invokevirtual 30, 3) := by decide +kernel
theorem dX2_add_12 : decode cX2_add 12 = .ok (.return_, 1) := by decide +kernel
theorem dX2_letDaysPass_0 : decode cX2_letDaysPass 0 = .ok (.iload_n 1, 1) := by decide +kernel
theorem dX2_letDaysPass_1 : decode cX2_letDaysPass 1 = .ok (.iload_n 2, 1) := by decide +kernel
theorem dX2_letDaysPass_2 : decode cX2_letDaysPass 2 = .ok (.imul, 1) := by decide +kernel
theorem dX2_letDaysPass_3 : decode cX2_letDaysPass 3 = .ok (.istore_n 3, 1) := by decide +kernel
theorem dX2_letDaysPass_4 : decode cX2_letDaysPass 4 = .ok (.iload_n 3, 1) := by decide +kernel
theorem dX2_letDaysPass_5 : decode cX2_letDaysPass 5 = .ok (.aload_n 0, 1) := by decide +kernel
theorem dX2_letDaysPass_6 : decode cX2_letDaysPass 6 = .ok (.iconst 2, 1) := by decide +kernel
theorem dX2_letDaysPass_7 : decode cX2_letDaysPass 7 = .ok (.invokevirtual 41, 3) := by decide +kernel
theorem dX2_letDaysPass_10 : decode cX2_letDaysPass 10 = .ok (.invokestatic 44, 3) := by decide +kernel
theorem dX2_letDaysPass_13 : decode cX2_letDaysPass 13 = .ok (.istore 4, 2) := by decide +kernel
theorem dX2_letDaysPass_15 : decode cX2_letDaysPass 15 = .ok (.aload_n 0, 1) := by decide +kernel
theorem dX2_letDaysPass_16 : decode cX2_letDaysPass 16 = .ok (.iconst 1, 1) := by decide +kernel
theorem dX2_letDaysPass_17 : decode cX2_letDaysPass 17 = .ok (.iload_n 1, 1) := by decide +kernel
theorem dX2_letDaysPass_18 : decode cX2_letDaysPass 18 = .ok (.invokevirtual 50, 3) := by decide +kernel
theorem dX2_letDaysPass_21 : decode cX2_letDaysPass 21 = .ok (.aload_n 0, 1) := by decide +kernel
theorem dX2_letDaysPass_22 : decode cX2_letDaysPass 22 = .ok (.iconst 2, 1) := by decide +kernel
theorem dX2_letDaysPass_23 : decode cX2_letDaysPass 23 = .ok (.iload 4, 2) := by decide +kernel
theorem dX2_letDaysPass_25 : decode cX2_letDaysPass 25 = .ok (.ineg, 1) := by decide +kernel
theorem dX2_letDaysPass_26 : decode cX2_letDaysPass 26 = .ok (.invokevirtual 50, 3) := by decide +kernel
theorem dX2_letDaysPass_29 : decode cX2_letDaysPass 29 = .ok (.aload_n 0, 1) := by decide +kernel
theorem dX2_letDaysPass_30 : decode cX2_letDaysPass 30 = .ok (.iconst 3, 1) := by decide +kernel
theorem dX2_letDaysPass_31 : decode cX2_letDaysPass 31 = .ok (.sipush 9999, 3) := by decide +kernel
theorem dX2_letDaysPass_34 : decode cX2_letDaysPass 34 = .ok (.aload_n 0, 1) := by decide +kernel
theorem dX2_letDaysPass_35 : decode cX2_letDaysPass 35 = .ok (.iconst 3, 1) := by decide +kernel
theorem dX2_letDaysPass_36 : decode cX2_letDaysPass 36 = .ok (.invokevirtual 41, 3) := by decide +kernel
theorem dX2_letDaysPass_39 : decode cX2_letDaysPass 39 = .ok (.iload_n 3, 1) := by decide +kernel
theorem dX2_letDaysPass_40 : decode cX2_letDaysPass 40 = .ok (.iadd, 1) := by decide +kernel
theorem dX2_letDaysPass_41 : decode cX2_letDaysPass 41 = .ok (.iload 4, 2) := by decide +kernel
theorem dX2_letDaysPass_43 : decode cX2_letDaysPass 43 = .ok (.isub, 1) := by decide +kernel
theorem dX2_letDaysPass_44 : decode cX2_letDaysPass 44 = .ok (.invokestatic 44, 3) := by decide +kernel
theorem dX2_letDaysPass_47 : decode cX2_letDaysPass 47 = .ok (.invokevirtual 30, 3) := by decide +kernel
theorem dX2_letDaysPass_50 : decode cX2_letDaysPass 50 = .ok (.return_, 1) := by decide +kernel
theorem dX2_remember_0 : decode cX2_remember 0 = .ok (.aload_n 0, 1) := by decide +kernel
theorem dX2_remember_1 : decode cX2_remember 1 = .ok (.getfield 9, 3) := by decide +kernel
theorem dX2_remember_4 : decode cX2_remember 4 = .ok (.iconst 0, 1) := by decide +kernel
theorem dX2_remember_5 : decode cX2_remember 5 = .ok (.aload_n 0, 1) := by decide +kernel
theorem dX2_remember_6 : decode cX2_remember 6 = .ok (.getfield 9, 3) := by decide +kernel
theorem dX2_remember_9 : decode cX2_remember 9 = .ok (.bipush 28, 2) := by decide +kernel
theorem dX2_remember_11 : decode cX2_remember 11 = .ok (.sipush 280, 3) := by decide +kernel
theorem dX2_remember_14 : decode cX2_remember 14 = .ok (.invokestatic 53, 3) := by decide +kernel
theorem dX2_remember_17 : decode cX2_remember 17 = .ok (.aload_n 0, 1) := by decide +kernel
theorem dX2_remember_18 : decode cX2_remember 18 = .ok (.bipush 10, 2) := by decide +kernel
theorem dX2_remember_20 : decode cX2_remember 20 = .ok (.aload_n 0, 1) := by decide +kernel
theorem dX2_remember_21 : decode cX2_remember 21 = .ok (.getfield 21, 3) := by decide +kernel
theorem dX2_remember_24 : decode cX2_remember 24 = .ok (.iconst 1, 1) := by decide +kernel
theorem dX2_remember_25 : decode cX2_remember 25 = .ok (.iadd, 1) := by decide +kernel
theorem dX2_remember_26 : decode cX2_remember 26 = .ok (.invokestatic 44, 3) := by decide +kernel
theorem dX2_remember_29 : decode cX2_remember 29 = .ok (.putfield 21, 3) := by decide +kernel
theorem dX2_remember_32 : decode cX2_remember 32 = .ok (.return_, 1) := by decide +kernel
theorem dX2_goBack_0 : decode cX2_goBack 0 = .ok (.aload_n 0, 1) := by decide +kernel
theorem dX2_goBack_1 : decode cX2_goBack 1 = .ok (.getfield 21, 3) := by decide +kernel
theorem dX2_goBack_4 : decode cX2_goBack 4 = .ok (.iconst 1, 1) := by decide +kernel
theorem dX2_goBack_5 : decode cX2_goBack 5 = .ok (.if_icmp .ge 5, 3) := by decide +kernel
theorem dX2_goBack_8 : decode cX2_goBack 8 = .ok (.iconst 0, 1) := by decide +kernel
theorem dX2_goBack_9 : decode cX2_goBack 9 = .ok (.ireturn, 1) := by decide +kernel
theorem dX2_goBack_10 : decode cX2_goBack 10 = .ok (.aload_n 0, 1) := by decide +kernel
theorem dX2_goBack_11 : decode cX2_goBack 11 = .ok (.getfield 9, 3) := by decide +kernel
theorem dX2_goBack_14 : decode cX2_goBack 14 = .ok (.bipush 28, 2) := by decide +kernel
theorem dX2_goBack_16 : decode cX2_goBack 16 = .ok (.aload_n 0, 1) := by decide +kernel
theorem dX2_goBack_17 : decode cX2_goBack 17 = .ok (.getfield 9, 3) := by decide +kernel
theorem dX2_goBack_20 : decode cX2_goBack 20 = .ok (.iconst 0, 1) := by decide +kernel
theorem dX2_goBack_21 : decode cX2_goBack 21 = .ok (.sipush 280, 3) := by decide +kernel
theorem dX2_goBack_24 : decode cX2_goBack 24 = .ok (.invokestatic 53, 3) := by decide +kernel
theorem dX2_goBack_27 : decode cX2_goBack 27 = .ok (.aload_n 0, 1) := by decide +kernel
theorem dX2_goBack_28 : decode cX2_goBack 28 = .ok (.dup, 1) := by decide +kernel
theorem dX2_goBack_29 : decode cX2_goBack 29 = .ok (.getfield 21, 3) := by decide +kernel
theorem dX2_goBack_32 : decode cX2_goBack 32 = .ok (.iconst 1, 1) := by decide +kernel
theorem dX2_goBack_33 : decode cX2_goBack 33 = .ok (.isub, 1) := by decide +kernel
theorem dX2_goBack_34 : decode cX2_goBack 34 = .ok (.putfield 21, 3) := by decide +kernel
theorem dX2_goBack_37 : decode cX2_goBack 37 = .ok (.iconst 1, 1) := by decide +kernel
theorem dX2_goBack_38 : decode cX2_goBack 38 = .ok (.ireturn, 1) := by decide +kernel
theorem dX2_copyFrom_0 : decode cX2_copyFrom 0 = .ok (.aload_n 1, 1) := by decide +kernel
theorem dX2_copyFrom_1 : decode cX2_copyFrom 1 = .ok (.getfield 9, 3) := by decide +kernel
theorem dX2_copyFrom_4 : decode cX2_copyFrom 4 = .ok (.iconst 0, 1) := by decide +kernel
theorem dX2_copyFrom_5 : decode cX2_copyFrom 5 = .ok (.aload_n 0, 1) := by decide +kernel
theorem dX2_copyFrom_6 : decode cX2_copyFrom 6 = .ok (.getfield 9, 3) := by decide +kernel
theorem dX2_copyFrom_9 : decode cX2_copyFrom 9 = .ok (.iconst 0, 1) := by decide +kernel
theorem dX2_copyFrom_10 : decode cX2_copyFrom 10 = .ok (.aload_n 0, 1) := by decide +kernel
theorem dX2_copyFrom_11 : decode cX2_copyFrom 11 = .ok (.getfield 9, 3) := by decide +kernel
theorem dX2_copyFrom_14 : decode cX2_copyFrom 14 = .ok (.arraylength, 1) := by decide +kernel
theorem dX2_copyFrom_15 : decode cX2_copyFrom 15 = .ok (.invokestatic 53, 3) := by decide +kernel
theorem dX2_copyFrom_18 : decode cX2_copyFrom 18 = .ok (.aload_n 0, 1) := by decide +kernel
theorem dX2_copyFrom_19 : decode cX2_copyFrom 19 = .ok (.aload_n 1, 1) := by decide +kernel
theorem dX2_copyFrom_20 : decode cX2_copyFrom 20 = .ok (.getfield 21, 3) := by decide +kernel
theorem dX2_copyFrom_23 : decode cX2_copyFrom 23 = .ok (.putfield 21, 3) := by decide +kernel
theorem dX2_copyFrom_26 : decode cX2_copyFrom 26 = .ok (.return_, 1) := by decide +kernel
theorem dX3_init_0 : decode cX3_init 0 = .ok (.aload_n 0, 1) := by decide +kernel
theorem dX3_init_1 : decode cX3_init 1 = .ok (.invokespecial 3, 3) := by decide +kernel
theorem dX3_init_4 : decode cX3_init 4 = .ok (.aload_n 0, 1) := by decide +kernel
theorem dX3_init_5 : decode cX3_init 5 = .ok (.sipush 180, 3) := by decide +kernel
theorem dX3_init_8 : decode cX3_init 8 = .ok (.newarray .int, 2) := by decide +kernel
theorem dX3_init_10 : decode cX3_init 10 = .ok (.putfield 9, 3) := by decide +kernel
theorem dX3_init_13 : decode cX3_init 13 = .ok (.return_, 1) := by decide +kernel
theorem dX3_append_0 : decode cX3_append 0 = .ok (.aload_n 0, 1) := by decide +kernel
theorem dX3_append_1 : decode cX3_append 1 = .ok (.getfield 15, 3) := by decide +kernel
theorem dX3_append_4 : decode cX3_append 4 = .ok (.ifCond .lt 15, 3) := by decide +kernel
theorem dX3_append_7 : decode cX3_append 7 = .ok (.aload_n 0, 1) := by decide +kernel
theorem dX3_append_8 : decode cX3_append 8 = .ok (.getfield 15, 3) := by decide +kernel
theorem dX3_append_11 : decode cX3_append 11 = .ok (.aload_n 0, 1) := by decide +kernel
theorem dX3_append_12 : decode cX3_append 12 = .ok (.getfield 9, 3) := by decide +kernel
theorem dX3_append_15 : decode cX3_append 15 = .ok (.arraylength, 1) := by decide +kernel
theorem dX3_append_16 : decode cX3_append 16 = .ok (.if_icmp .lt 5, 3) := by decide +kernel
theorem dX3_append_19 : decode cX3_append 19 = .ok (.iconst 0, 1) := by decide +kernel
theorem dX3_append_20 : decode cX3_append 20 = .ok (.ireturn, 1) := by decide +kernel
theorem dX3_append_21 : decode cX3_append 21 = .ok (.aload_n 0, 1) := by decide +kernel
theorem dX3_append_22 : decode cX3_append 22 = .ok (.getfield 9, 3) := by decide +kernel
theorem dX3_append_25 : decode cX3_append 25 = .ok (.aload_n 0, 1) := by decide +kernel
theorem dX3_append_26 : decode cX3_append 26 = .ok (.getfield 15, 3) := by decide +kernel
theorem dX3_append_29 : decode cX3_append 29 = .ok (.iload_n 1, 1) := by decide +kernel
theorem dX3_append_30 : decode cX3_append 30 = .ok (.iastore, 1) := by decide +kernel
theorem dX3_append_31 : decode cX3_append 31 = .ok (.aload_n 0, 1) := by decide +kernel
theorem dX3_append_32 : decode cX3_append 32 = .ok (.dup, 1) := by decide +kernel
theorem dX3_append_33 : decode cX3_append 33 = .ok (.getfield 15, 3) := by decide +kernel
theorem dX3_append_36 : decode cX3_append 36 = .ok (.iconst 1, 1) := by decide +kernel
theorem dX3_append_37 : decode cX3_append 37 = .ok (.iadd, 1) := by decide +kernel
theorem dX3_append_38 : decode cX3_append 38 = .ok (.putfield 15, 3) := by decide +kernel
theorem dX3_append_41 : decode cX3_append 41 = .ok (.iconst 1, 1) := by decide +kernel
theorem dX3_append_42 : decode cX3_append 42 = .ok (.ireturn, 1) := by decide +kernel
theorem dX3_toFirstToken_0 : decode cX3_toFirstToken 0 = .ok (.aload_n 0, 1) := by decide +kernel
theorem dX3_toFirstToken_1 : decode cX3_toFirstToken 1 = .ok (.iconst 0, 1) := by decide +kernel
theorem dX3_toFirstToken_2 : decode cX3_toFirstToken 2 = .ok (.putfield 19, 3) := by decide +kernel
theorem dX3_toFirstToken_5 : decode cX3_toFirstToken 5 = .ok (.aload_n 0, 1) := by decide +kernel
theorem dX3_toFirstToken_6 : decode cX3_toFirstToken 6 = .ok (.invokevirtual 22, 3) := by decide +kernel
theorem dX3_toFirstToken_9 : decode cX3_toFirstToken 9 = .ok (.return_, 1) := by decide +kernel
theorem dX3_toNextToken_0 : decode cX3_toNextToken 0 = .ok (.aload_n 0, 1) := by decide +kernel
theorem dX3_toNextToken_1 : decode cX3_toNextToken 1 = .ok (.getfield 19, 3) := by decide +kernel
theorem dX3_toNextToken_4 : decode cX3_toNextToken 4 = .ok (.aload_n 0, 1) := by decide +kernel
theorem dX3_toNextToken_5 : decode cX3_toNextToken 5 = .ok (.getfield 15, 3) := by decide +kernel
theorem dX3_toNextToken_8 : decode cX3_toNextToken 8 = .ok (.if_icmp .ge 29, 3) := by decide +kernel
theorem dX3_toNextToken_11 : decode cX3_toNextToken 11 = .ok (.aload_n 0, 1) := by decide +kernel
theorem dX3_toNextToken_12 : decode cX3_toNextToken 12 = .ok (.aload_n 0, 1) := by decide +kernel
theorem dX3_toNextToken_13 : decode cX3_toNextToken 13 = .ok (.getfield 19, 3) := by decide +kernel
theorem dX3_toNextToken_16 : decode cX3_toNextToken 16 = .ok (.invokevirtual 25, 3) := by decide +kernel
theorem dX3_toNextToken_19 : decode cX3_toNextToken 19 = .ok (.bipush 32, 2) := by decide +kernel
theorem dX3_toNextToken_21 : decode cX3_toNextToken 21 = .ok (.if_icmp .ne 16, 3) := by decide +kernel
theorem dX3_toNextToken_24 : decode cX3_toNextToken 24 = .ok (.aload_n 0, 1) := by decide +kernel
theorem dX3_toNextToken_25 : decode cX3_toNextToken 25 = .ok (.dup, 1) := by decide +kernel
theorem dX3_toNextToken_26 : decode cX3_toNextToken 26 = .ok (.getfield 19, 3) := by decide +kernel
theorem dX3_toNextToken_29 : decode cX3_toNextToken 29 = .ok (.iconst 1, 1) := by decide +kernel
theorem dX3_toNextToken_30 : decode cX3_toNextToken 30 = .ok (.iadd, 1) := by decide +kernel
theorem dX3_toNextToken_31 : decode cX3_toNextToken 31 = .ok (.putfield 19, 3) := by decide +kernel
theorem dX3_toNextToken_34 : decode cX3_toNextToken 34 = .ok (.goto (-34), 3) := by decide +kernel
theorem dX3_toNextToken_37 : decode cX3_toNextToken 37 = .ok (.aload_n 0, 1) := by decide +kernel
theorem dX3_toNextToken_38 : decode cX3_toNextToken 38 = .ok (.aload_n 0, 1) := by decide +kernel
theorem dX3_toNextToken_39 : decode cX3_toNextToken 39 = .ok (.getfield 19, 3) := by decide +kernel
theorem dX3_toNextToken_42 : decode cX3_toNextToken 42 = .ok (.putfield 29, 3) := by decide +kernel
theorem dX3_toNextToken_45 : decode cX3_toNextToken 45 = .ok (.aload_n 0, 1) := by decide +kernel
theorem dX3_toNextToken_46 : decode cX3_toNextToken 46 = .ok (.iconst 0, 1) := by decide +kernel
theorem dX3_toNextToken_47 : decode cX3_toNextToken 47 = .ok (.putfield 32, 3) := by decide +kernel
theorem dX3_toNextToken_50 : decode cX3_toNextToken 50 = .ok (.aload_n 0, 1) := by decide +kernel
theorem dX3_toNextToken_51 : decode cX3_toNextToken 51 = .ok (.aload_n 0, 1) := by decide +kernel
theorem dX3_toNextToken_52 : decode cX3_toNextToken 52 = .ok (.getfield 19, 3) := by decide +kernel
theorem dX3_toNextToken_55 : decode cX3_toNextToken 55 = .ok (.invokevirtual 25, 3) := by decide +kernel
theorem dX3_toNextToken_58 : decode cX3_toNextToken 58 = .ok (.istore_n 1, 1) := by decide +kernel
theorem dX3_toNextToken_59 : decode cX3_toNextToken 59 = .ok (.aload_n 0, 1) := by decide +kernel
theorem dX3_toNextToken_60 : decode cX3_toNextToken 60 = .ok (.getfield 19, 3) := by decide +kernel
theorem dX3_toNextToken_63 : decode cX3_toNextToken 63 = .ok (.aload_n 0, 1) := by decide +kernel
theorem dX3_toNextToken_64 : decode cX3_toNextToken 64 = .ok (.getfield 15, 3) := by decide +kernel
theorem dX3_toNextToken_67 : decode cX3_toNextToken 67 = .ok (.if_icmp .lt 11, 3) := by decide +kernel
theorem dX3_toNextToken_70 : decode cX3_toNextToken 70 = .ok (.aload_n 0, 1) := by decide +kernel
theorem dX3_toNextToken_71 : decode cX3_toNextToken 71 = .ok (.iconst 0, 1) := by decide +kernel
theorem dX3_toNextToken_72 : decode cX3_toNextToken 72 = .ok (.putfield 35, 3) := by decide +kernel
theorem dX3_toNextToken_75 : decode cX3_toNextToken 75 = .ok (.goto 64, 3) := by decide +kernel
theorem dX3_toNextToken_78 : decode cX3_toNextToken 78 = .ok (.iload_n 1, 1) := by decide +kernel
theorem dX3_toNextToken_79 : decode cX3_toNextToken 79 = .ok (.bipush 97, 2) := by decide +kernel
theorem dX3_toNextToken_81 : decode cX3_toNextToken 81 = .ok (.bipush 122, 2) := by decide +kernel
theorem dX3_toNextToken_83 : decode cX3_toNextToken 83 = .ok (.invokestatic 38, 3) := by decide +kernel
theorem dX3_toNextToken_86 : decode cX3_toNextToken 86 = .ok (.ifCond .eq 10, 3) := by decide +kernel
theorem dX3_toNextToken_89 : decode cX3_toNextToken 89 = .ok (.aload_n 0, 1) := by decide +kernel
theorem dX3_toNextToken_90 : decode cX3_toNextToken 90 = .ok (.invokevirtual 42, 3) := by decide +kernel
theorem dX3_toNextToken_93 : decode cX3_toNextToken 93 = .ok (.goto 46, 3) := by decide +kernel
theorem dX3_toNextToken_96 : decode cX3_toNextToken 96 = .ok (.iload_n 1, 1) := by decide +kernel
theorem dX3_toNextToken_97 : decode cX3_toNextToken 97 = .ok (.bipush 48, 2) := by decide +kernel
theorem dX3_toNextToken_99 : decode cX3_toNextToken 99 = .ok (.bipush 57, 2) := by decide +kernel
theorem dX3_toNextToken_101 : decode cX3_toNextToken 101 = .ok (.invokestatic 38, 3) := by decide +kernel
theorem dX3_toNextToken_104 : decode cX3_toNextToken 104 = .ok (.ifCond .eq 10, 3) := by decide +kernel
theorem dX3_toNextToken_107 : decode cX3_toNextToken 107 = .ok (.aload_n 0, 1) := by decide +kernel
theorem dX3_toNextToken_108 : decode cX3_toNextToken 108 = .ok (.invokevirtual 45, 3) := by decide +kernel
theorem dX3_toNextToken_111 : decode cX3_toNextToken 111 = .ok (.goto 28, 3) := by decide +kernel
theorem dX3_toNextToken_114 : decode cX3_toNextToken 114 = .ok (.aload_n 0, 1) := by decide +kernel
theorem dX3_toNextToken_115 : decode cX3_toNextToken 115 = .ok (.iload_n 1, 1) := by decide +kernel
theorem dX3_toNextToken_116 : decode cX3_toNextToken 116 = .ok (.bipush 59, 2) := by decide +kernel
theorem dX3_toNextToken_118 : decode cX3_toNextToken 118 = .ok (.if_icmp .ne 7, 3) := by decide +kernel
theorem dX3_toNextToken_121 : decode cX3_toNextToken 121 = .ok (.iconst 3, 1) := by decide +kernel
theorem dX3_toNextToken_122 : decode cX3_toNextToken 122 = .ok (.goto 4, 3) := by decide +kernel
theorem dX3_toNextToken_125 : decode cX3_toNextToken 125 = .ok (.iconst 4, 1) := by decide +kernel
theorem dX3_toNextToken_126 : decode cX3_toNextToken 126 = .ok (.putfield 35, 3) := by decide +kernel
theorem dX3_toNextToken_129 : decode cX3_toNextToken 129 = .ok (.aload_n 0, 1) := by decide +kernel
theorem dX3_toNextToken_130 : decode cX3_toNextToken 130 = .ok (.dup, 1) := by decide +kernel
theorem dX3_toNextToken_131 : decode cX3_toNextToken 131 = .ok (.getfield 19, 3) := by decide +kernel
theorem dX3_toNextToken_134 : decode cX3_toNextToken 134 = .ok (.iconst 1, 1) := by decide +kernel
theorem dX3_toNextToken_135 : decode cX3_toNextToken 135 = .ok (.iadd, 1) := by decide +kernel
theorem dX3_toNextToken_136 : decode cX3_toNextToken 136 = .ok (.putfield 19, 3) := by decide +kernel
theorem dX3_toNextToken_139 : decode cX3_toNextToken 139 = .ok (.return_, 1) := by decide +kernel
theorem dX3_readLetters_0 : decode cX3_readLetters 0 = .ok (.aload_n 0, 1) := by decide +kernel
theorem dX3_readLetters_1 : decode cX3_readLetters 1 = .ok (.getfield 19, 3) := by decide +kernel
theorem dX3_readLetters_4 : decode cX3_readLetters 4 = .ok (.aload_n 0, 1) := by decide +kernel
theorem dX3_readLetters_5 : decode cX3_readLetters 5 = .ok (.getfield 15, 3) := by decide +kernel
theorem dX3_readLetters_8 : decode cX3_readLetters 8 = .ok (.if_icmp .ge 34, 3) := by decide +kernel
theorem dX3_readLetters_11 : decode cX3_readLetters 11 = .ok (.aload_n 0, 1) := by decide +kernel
theorem dX3_readLetters_12 : decode cX3_readLetters 12 = .ok (.aload_n 0, 1) := by decide +kernel
theorem dX3_readLetters_13 : decode cX3_readLetters 13 = .ok (.getfield 19, 3) := by decide +kernel
theorem dX3_readLetters_16 : decode cX3_readLetters 16 = .ok (.invokevirtual 25, 3) := by decide +kernel
theorem dX3_readLetters_19 : decode cX3_readLetters 19 = .ok (.bipush 97, 2) := by decide +kernel
theorem dX3_readLetters_21 : decode cX3_readLetters 21 = .ok (.bipush 122, 2) := by decide +kernel
theorem dX3_readLetters_23 : decode cX3_readLetters 23 = .ok (.invokestatic 38, 3) := by decide +kernel
theorem dX3_readLetters_26 : decode cX3_readLetters 26 = .ok (.ifCond .eq 16, 3) := by decide +kernel
theorem dX3_readLetters_29 : decode cX3_readLetters 29 = .ok (.aload_n 0, 1) := by decide +kernel
theorem dX3_readLetters_30 : decode cX3_readLetters 30 = .ok (.dup, 1) := by decide +kernel
theorem dX3_readLetters_31 : decode cX3_readLetters 31 = .ok (.getfield 19, 3) := by decide +kernel
theorem dX3_readLetters_34 : decode cX3_readLetters 34 = .ok (.iconst 1, 1) := by decide +kernel
theorem dX3_readLetters_35 : decode cX3_readLetters 35 = .ok (.iadd, 1) := by decide +kernel
theorem dX3_readLetters_36 : decode cX3_readLetters 36 = .ok (.putfield 19, 3) := by decide +kernel
theorem dX3_readLetters_39 : decode cX3_readLetters 39 = .ok (.goto (-39), 3) := by decide +kernel
theorem dX3_readLetters_42 : decode cX3_readLetters 42 = .ok (.aload_n 0, 1) := by decide +kernel
theorem dX3_readLetters_43 : decode cX3_readLetters 43 = .ok (.iconst 1, 1) := by decide +kernel
theorem dX3_readLetters_44 : decode cX3_readLetters 44 = .ok (.putfield 35, 3) := by decide +kernel
theorem dX3_readLetters_47 : decode cX3_readLetters 47 = .ok (.aload_n 0, 1) := by decide +kernel
theorem dX3_readLetters_48 : decode cX3_readLetters 48 = .ok (.aload_n 0, 1) := by decide +kernel
theorem dX3_readLetters_49 : decode cX3_readLetters 49 = .ok (.getfield 19, 3) := by decide +kernel
theorem dX3_readLetters_52 : decode cX3_readLetters 52 = .ok (.aload_n 0, 1) := by decide +kernel
theorem dX3_readLetters_53 : decode cX3_readLetters 53 = .ok (.getfield 29, 3) := by decide +kernel
theorem dX3_readLetters_56 : decode cX3_readLetters 56 = .ok (.isub, 1) := by decide +kernel
theorem dX3_readLetters_57 : decode cX3_readLetters 57 = .ok (.iconst 1, 1) := by decide +kernel
theorem dX3_readLetters_58 : decode cX3_readLetters 58 = .ok (.if_icmp .ne 14, 3) := by decide +kernel
theorem dX3_readLetters_61 : decode cX3_readLetters 61 = .ok (.aload_n 0, 1) := by decide +kernel
theorem dX3_readLetters_62 : decode cX3_readLetters 62 = .ok (.aload_n 0, 1) := by decide +kernel
theorem dX3_readLetters_63 : decode cX3_readLetters 63 = .ok (.getfield 29, 3) := by decide +kernel
theorem dX3_readLetters_66 : decode cX3_readLetters 66 = .ok (.invokevirtual 25, 3) := by decide +kernel
theorem dX3_readLetters_69 : decode cX3_readLetters 69 = .ok (.goto 4, 3) := by decide +kernel
theorem dX3_readLetters_72 : decode cX3_readLetters 72 = .ok (.iconst 0, 1) := by decide +kernel
theorem dX3_readLetters_73 : decode cX3_readLetters 73 = .ok (.putfield 32, 3) := by decide +kernel
theorem dX3_readLetters_76 : decode cX3_readLetters 76 = .ok (.return_, 1) := by decide +kernel
theorem dX3_readNumber_0 : decode cX3_readNumber 0 = .ok (.aload_n 0, 1) := by decide +kernel
theorem dX3_readNumber_1 : decode cX3_readNumber 1 = .ok (.getfield 19, 3) := by decide +kernel
theorem dX3_readNumber_4 : decode cX3_readNumber 4 = .ok (.aload_n 0, 1) := by decide +kernel
theorem dX3_readNumber_5 : decode cX3_readNumber 5 = .ok (.getfield 15, 3) := by decide +kernel
theorem dX3_readNumber_8 : decode cX3_readNumber 8 = .ok (.if_icmp .ge 62, 3) := by decide +kernel
theorem dX3_readNumber_11 : decode cX3_readNumber 11 = .ok (.aload_n 0, 1) := by decide +kernel
theorem dX3_readNumber_12 : decode cX3_readNumber 12 = .ok (.aload_n 0, 1) := by decide +kernel
theorem dX3_readNumber_13 : decode cX3_readNumber 13 = .ok (.getfield 19, 3) := by decide +kernel
theorem dX3_readNumber_16 : decode cX3_readNumber 16 = .ok (.invokevirtual 25, 3) := by decide +kernel
theorem dX3_readNumber_19 : decode cX3_readNumber 19 = .ok (.bipush 48, 2) := by decide +kernel
theorem dX3_readNumber_21 : decode cX3_readNumber 21 = .ok (.bipush 57, 2) := by decide +kernel
theorem dX3_readNumber_23 : decode cX3_readNumber 23 = .ok (.invokestatic 38, 3) := by decide +kernel
theorem dX3_readNumber_26 : decode cX3_readNumber 26 = .ok (.ifCond .eq 44, 3) := by decide +kernel
theorem dX3_readNumber_29 : decode cX3_readNumber 29 = .ok (.aload_n 0, 1) := by decide +kernel
theorem dX3_readNumber_30 : decode cX3_readNumber 30 = .ok (.bipush 100, 2) := by decide +kernel
theorem dX3_readNumber_32 : decode cX3_readNumber 32 = .ok (.aload_n 0, 1) := by decide +kernel
theorem dX3_readNumber_33 : decode cX3_readNumber 33 = .ok (.getfield 32, 3) := by decide +kernel
theorem dX3_readNumber_36 : decode cX3_readNumber 36 = .ok (.bipush 10, 2) := by decide +kernel
theorem dX3_readNumber_38 : decode cX3_readNumber 38 = .ok (.imul, 1) := by decide +kernel
theorem dX3_readNumber_39 : decode cX3_readNumber 39 = .ok (.aload_n 0, 1) := by decide +kernel
theorem dX3_readNumber_40 : decode cX3_readNumber 40 = .ok (.aload_n 0, 1) := by decide +kernel
theorem dX3_readNumber_41 : decode cX3_readNumber 41 = .ok (.getfield 19, 3) := by decide +kernel
theorem dX3_readNumber_44 : decode cX3_readNumber 44 = .ok (.invokevirtual 25, 3) := by decide +kernel
theorem dX3_readNumber_47 : decode cX3_readNumber 47 = .ok (.iadd, 1) := by decide +kernel
theorem dX3_readNumber_48 : decode cX3_readNumber 48 = .ok (.bipush 48, 2) := by decide +kernel
theorem dX3_readNumber_50 : decode cX3_readNumber 50 = .ok (.isub, 1) := by decide +kernel
theorem dX3_readNumber_51 : decode cX3_readNumber 51 = .ok (.invokestatic 48, 3) := by decide +kernel
theorem dX3_readNumber_54 : decode cX3_readNumber 54 = .ok (.putfield 32, 3) := by decide +kernel
theorem dX3_readNumber_57 : decode cX3_readNumber 57 = .ok (.aload_n 0, 1) := by decide +kernel
theorem dX3_readNumber_58 : decode cX3_readNumber 58 = .ok (.dup, 1) := by decide +kernel
theorem dX3_readNumber_59 : decode cX3_readNumber 59 = .ok (.getfield 19, 3) := by decide +kernel
theorem dX3_readNumber_62 : decode cX3_readNumber 62 = .ok (.iconst 1, 1) := by decide +kernel
theorem dX3_readNumber_63 : decode cX3_readNumber 63 = .ok (.iadd, 1) := by decide +kernel
theorem dX3_readNumber_64 : decode cX3_readNumber 64 = .ok (.putfield 19, 3) := by decide +kernel
theorem dX3_readNumber_67 : decode cX3_readNumber 67 = .ok (.goto (-67), 3) := by decide +kernel
theorem dX3_readNumber_70 : decode cX3_readNumber 70 = .ok (.aload_n 0, 1) := by decide +kernel
theorem dX3_readNumber_71 : decode cX3_readNumber 71 = .ok (.getfield 19, 3) := by decide +kernel
theorem dX3_readNumber_74 : decode cX3_readNumber 74 = .ok (.aload_n 0, 1) := by decide +kernel
theorem dX3_readNumber_75 : decode cX3_readNumber 75 = .ok (.getfield 29, 3) := by decide +kernel
theorem dX3_readNumber_78 : decode cX3_readNumber 78 = .ok (.isub, 1) := by decide +kernel
theorem dX3_readNumber_79 : decode cX3_readNumber 79 = .ok (.iconst 1, 1) := by decide +kernel
theorem dX3_readNumber_80 : decode cX3_readNumber 80 = .ok (.if_icmp .le 20, 3) := by decide +kernel
theorem dX3_readNumber_83 : decode cX3_readNumber 83 = .ok (.aload_n 0, 1) := by decide +kernel
theorem dX3_readNumber_84 : decode cX3_readNumber 84 = .ok (.aload_n 0, 1) := by decide +kernel
theorem dX3_readNumber_85 : decode cX3_readNumber 85 = .ok (.getfield 29, 3) := by decide +kernel
theorem dX3_readNumber_88 : decode cX3_readNumber 88 = .ok (.invokevirtual 25, 3) := by decide +kernel
theorem dX3_readNumber_91 : decode cX3_readNumber 91 = .ok (.bipush 48, 2) := by decide +kernel
theorem dX3_readNumber_93 : decode cX3_readNumber 93 = .ok (.if_icmp .ne 7, 3) := by decide +kernel
theorem dX3_readNumber_96 : decode cX3_readNumber 96 = .ok (.iconst 1, 1) := by decide +kernel
theorem dX3_readNumber_97 : decode cX3_readNumber 97 = .ok (.goto 4, 3) := by decide +kernel
theorem dX3_readNumber_100 : decode cX3_readNumber 100 = .ok (.iconst 0, 1) := by decide +kernel
theorem dX3_readNumber_101 : decode cX3_readNumber 101 = .ok (.istore_n 1, 1) := by decide +kernel
theorem dX3_readNumber_102 : decode cX3_readNumber 102 = .ok (.aload_n 0, 1) := by decide +kernel
theorem dX3_readNumber_103 : decode cX3_readNumber 103 = .ok (.aload_n 0, 1) := by decide +kernel
theorem dX3_readNumber_104 : decode cX3_readNumber 104 = .ok (.getfield 32, 3) := by decide +kernel
theorem dX3_readNumber_107 : decode cX3_readNumber 107 = .ok (.bipush 99, 2) := by decide +kernel
theorem dX3_readNumber_109 : decode cX3_readNumber 109 = .ok (.if_icmp .gt 7, 3) := by decide +kernel
theorem dX3_readNumber_112 : decode cX3_readNumber 112 = .ok (.iload_n 1, 1) := by decide +kernel
theorem dX3_readNumber_113 : decode cX3_readNumber 113 = .ok (.ifCond .eq 7, 3) := by decide +kernel
theorem dX3_readNumber_116 : decode cX3_readNumber 116 = .ok (.iconst 4, 1) := by decide +kernel
theorem dX3_readNumber_117 : decode cX3_readNumber 117 = .ok (.goto 4, 3) := by decide +kernel
theorem dX3_readNumber_120 : decode cX3_readNumber 120 = .ok (.iconst 2, 1) := by decide +kernel
theorem dX3_readNumber_121 : decode cX3_readNumber 121 = .ok (.putfield 35, 3) := by decide +kernel
theorem dX3_readNumber_124 : decode cX3_readNumber 124 = .ok (.return_, 1) := by decide +kernel
theorem dX3_byteAt_0 : decode cX3_byteAt 0 = .ok (.iconst 0, 1) := by decide +kernel
theorem dX3_byteAt_1 : decode cX3_byteAt 1 = .ok (.iload_n 1, 1) := by decide +kernel
theorem dX3_byteAt_2 : decode cX3_byteAt 2 = .ok (.if_icmp .gt 21, 3) := by decide +kernel
theorem dX3_byteAt_5 : decode cX3_byteAt 5 = .ok (.iload_n 1, 1) := by decide +kernel
theorem dX3_byteAt_6 : decode cX3_byteAt 6 = .ok (.aload_n 0, 1) := by decide +kernel
theorem dX3_byteAt_7 : decode cX3_byteAt 7 = .ok (.getfield 9, 3) := by decide +kernel
theorem dX3_byteAt_10 : decode cX3_byteAt 10 = .ok (.arraylength, 1) := by decide +kernel
theorem dX3_byteAt_11 : decode cX3_byteAt 11 = .ok (.if_icmp .ge 12, 3) := by decide +kernel
theorem dX3_byteAt_14 : decode cX3_byteAt 14 = .ok (.aload_n 0, 1) := by decide +kernel
theorem dX3_byteAt_15 : decode cX3_byteAt 15 = .ok (.getfield 9, 3) := by decide +kernel
theorem dX3_byteAt_18 : decode cX3_byteAt 18 = .ok (.iload_n 1, 1) := by decide +kernel
theorem dX3_byteAt_19 : decode cX3_byteAt 19 = .ok (.iaload, 1) := by decide +kernel
theorem dX3_byteAt_20 : decode cX3_byteAt 20 = .ok (.goto 4, 3) := by decide +kernel
theorem dX3_byteAt_23 : decode cX3_byteAt 23 = .ok (.iconst 0, 1) := by decide +kernel
theorem dX3_byteAt_24 : decode cX3_byteAt 24 = .ok (.ireturn, 1) := by decide +kernel
theorem dX4_init_0 : decode cX4_init 0 = .ok (.aload_n 0, 1) := by decide +kernel
theorem dX4_init_1 : decode cX4_init 1 = .ok (.invokespecial 3, 3) := by decide +kernel
theorem dX4_init_4 : decode cX4_init 4 = .ok (.aload_n 0, 1) := by decide +kernel
theorem dX4_init_5 : decode cX4_init 5 = .ok (.bipush 6, 2) := by decide +kernel
theorem dX4_init_7 : decode cX4_init 7 = .ok (.newarray .int, 2) := by decide +kernel
theorem dX4_init_9 : decode cX4_init 9 = .ok (.putfield 9, 3) := by decide +kernel
theorem dX4_init_12 : decode cX4_init 12 = .ok (.aload_n 0, 1) := by decide +kernel
theorem dX4_init_13 : decode cX4_init 13 = .ok (.bipush 6, 2) := by decide +kernel
theorem dX4_init_15 : decode cX4_init 15 = .ok (.newarray .int, 2) := by decide +kernel
theorem dX4_init_17 : decode cX4_init 17 = .ok (.putfield 15, 3) := by decide +kernel
theorem dX4_init_20 : decode cX4_init 20 = .ok (.aload_n 0, 1) := by decide +kernel
theorem dX4_init_21 : decode cX4_init 21 = .ok (.bipush 6, 2) := by decide +kernel
theorem dX4_init_23 : decode cX4_init 23 = .ok (.newarray .int, 2) := by decide +kernel
theorem dX4_init_25 : decode cX4_init 25 = .ok (.putfield 18, 3) := by decide +kernel
theorem dX4_init_28 : decode cX4_init 28 = .ok (.return_, 1) := by decide +kernel
theorem dX4_find_0 : decode cX4_find 0 = .ok (.aload_n 0, 1) := by decide +kernel
theorem dX4_find_1 : decode cX4_find 1 = .ok (.iconst 0, 1) := by decide +kernel
theorem dX4_find_2 : decode cX4_find 2 = .ok (.putfield 21, 3) := by decide +kernel
theorem dX4_find_5 : decode cX4_find 5 = .ok (.iconst 0, 1) := by decide +kernel
theorem dX4_find_6 : decode cX4_find 6 = .ok (.istore 7, 2) := by decide +kernel
theorem dX4_find_8 : decode cX4_find 8 = .ok (.iload 7, 2) := by decide +kernel
theorem dX4_find_10 : decode cX4_find 10 = .ok (.aload_n 0, 1) := by decide +kernel
theorem dX4_find_11 : decode cX4_find 11 = .ok (.getfield 9, 3) := by decide +kernel
theorem dX4_find_14 : decode cX4_find 14 = .ok (.arraylength, 1) := by decide +kernel
theorem dX4_find_15 : decode cX4_find 15 = .ok (.if_icmp .ge 49, 3) := by decide +kernel
theorem dX4_find_18 : decode cX4_find 18 = .ok (.aload_n 0, 1) := by decide +kernel
theorem dX4_find_19 : decode cX4_find 19 = .ok (.getfield 9, 3) := by decide +kernel
theorem dX4_find_22 : decode cX4_find 22 = .ok (.iload 7, 2) := by decide +kernel
theorem dX4_find_24 : decode cX4_find 24 = .ok (.iload 7, 2) := by decide +kernel
theorem dX4_find_26 : decode cX4_find 26 = .ok (.aload_n 2, 1) := by decide +kernel
theorem dX4_find_27 : decode cX4_find 27 = .ok (.arraylength, 1) := by decide +kernel
theorem dX4_find_28 : decode cX4_find 28 = .ok (.if_icmp .ge 10, 3) := by decide +kernel
theorem dX4_find_31 : decode cX4_find 31 = .ok (.aload_n 2, 1) := by decide +kernel
theorem dX4_find_32 : decode cX4_find 32 = .ok (.iload 7, 2) := by decide +kernel
theorem dX4_find_34 : decode cX4_find 34 = .ok (.iaload, 1) := by decide +kernel
theorem dX4_find_35 : decode cX4_find 35 = .ok (.goto 4, 3) := by decide +kernel
theorem dX4_find_38 : decode cX4_find 38 = .ok (.iconst 0, 1) := by decide +kernel
theorem dX4_find_39 : decode cX4_find 39 = .ok (.iastore, 1) := by decide +kernel
theorem dX4_find_40 : decode cX4_find 40 = .ok (.aload_n 0, 1) := by decide +kernel
theorem dX4_find_41 : decode cX4_find 41 = .ok (.aload_n 0, 1) := by decide +kernel
theorem dX4_find_42 : decode cX4_find 42 = .ok (.getfield 21, 3) := by decide +kernel
theorem dX4_find_45 : decode cX4_find 45 = .ok (.aload_n 0, 1) := by decide +kernel
theorem dX4_find_46 : decode cX4_find 46 = .ok (.getfield 9, 3) := by decide +kernel
theorem dX4_find_49 : decode cX4_find 49 = .ok (.iload 7, 2) := by decide +kernel
theorem dX4_find_51 : decode cX4_find 51 = .ok (.iaload, 1) := by decide +kernel
theorem dX4_find_52 : decode cX4_find 52 = .ok (.invokestatic 25, 3) := by decide +kernel
theorem dX4_find_55 : decode cX4_find 55 = .ok (.putfield 21, 3) := by decide +kernel
theorem dX4_find_58 : decode cX4_find 58 = .ok (.iinc 7 1, 3) := by decide +kernel
theorem dX4_find_61 : decode cX4_find 61 = .ok (.goto (-53), 3) := by decide +kernel
theorem dX4_find_64 : decode cX4_find 64 = .ok (.aload_n 0, 1) := by decide +kernel
theorem dX4_find_65 : decode cX4_find 65 = .ok (.iload 6, 2) := by decide +kernel
theorem dX4_find_67 : decode cX4_find 67 = .ok (.putfield 31, 3) := by decide +kernel
theorem dX4_find_70 : decode cX4_find 70 = .ok (.aload_n 0, 1) := by decide +kernel
theorem dX4_find_71 : decode cX4_find 71 = .ok (.bipush (-9), 2) := by decide +kernel
theorem dX4_find_73 : decode cX4_find 73 = .ok (.putfield 34, 3) := by decide +kernel
theorem dX4_find_76 : decode cX4_find 76 = .ok (.iload_n 3, 1) := by decide +kernel
theorem dX4_find_77 : decode cX4_find 77 = .ok (.istore 7, 2) := by decide +kernel
theorem dX4_find_79 : decode cX4_find 79 = .ok (.iload 7, 2) := by decide +kernel
theorem dX4_find_81 : decode cX4_find 81 = .ok (.aload_n 1, 1) := by decide +kernel
theorem dX4_find_82 : decode cX4_find 82 = .ok (.getfield 37, 3) := by decide +kernel
theorem dX4_find_85 : decode cX4_find 85 = .ok (.if_icmp .gt 38, 3) := by decide +kernel
theorem dX4_find_88 : decode cX4_find 88 = .ok (.aload_n 0, 1) := by decide +kernel
theorem dX4_find_89 : decode cX4_find 89 = .ok (.iload 7, 2) := by decide +kernel
theorem dX4_find_91 : decode cX4_find 91 = .ok (.putfield 42, 3) := by decide +kernel
theorem dX4_find_94 : decode cX4_find 94 = .ok (.aload_n 0, 1) := by decide +kernel
theorem dX4_find_95 : decode cX4_find 95 = .ok (.aload_n 1, 1) := by decide +kernel
theorem dX4_find_96 : decode cX4_find 96 = .ok (.iconst 0, 1) := by decide +kernel
theorem dX4_find_97 : decode cX4_find 97 = .ok (.iconst 0, 1) := by decide +kernel
theorem dX4_find_98 : decode cX4_find 98 = .ok (.iload 4, 2) := by decide +kernel
theorem dX4_find_100 : decode cX4_find 100 = .ok (.iload 5, 2) := by decide +kernel
theorem dX4_find_102 : decode cX4_find 102 = .ok (.iconst 0, 1) := by decide +kernel
theorem dX4_find_103 : decode cX4_find 103 = .ok (.invokevirtual 45, 3) := by decide +kernel
theorem dX4_find_106 : decode cX4_find 106 = .ok (.aload_n 0, 1) := by decide +kernel
theorem dX4_find_107 : decode cX4_find 107 = .ok (.getfield 34, 3) := by decide +kernel
theorem dX4_find_110 : decode cX4_find 110 = .ok (.bipush (-9), 2) := by decide +kernel
theorem dX4_find_112 : decode cX4_find 112 = .ok (.if_icmp .eq 5, 3) := by decide +kernel
theorem dX4_find_115 : decode cX4_find 115 = .ok (.iconst 1, 1) := by decide +kernel
theorem dX4_find_116 : decode cX4_find 116 = .ok (.ireturn, 1) := by decide +kernel
theorem dX4_find_117 : decode cX4_find 117 = .ok (.iinc 7 1, 3) := by decide +kernel
theorem dX4_find_120 : decode cX4_find 120 = .ok (.goto (-41), 3) := by decide +kernel
theorem dX4_find_123 : decode cX4_find 123 = .ok (.iconst 0, 1) := by decide +kernel
theorem dX4_find_124 : decode cX4_find 124 = .ok (.ireturn, 1) := by decide +kernel
theorem dX4_at_0 : decode cX4_at 0 = .ok (.iconst 0, 1) := by decide +kernel
theorem dX4_at_1 : decode cX4_at 1 = .ok (.iload_n 1, 1) := by decide +kernel
theorem dX4_at_2 : decode cX4_at 2 = .ok (.if_icmp .gt 29, 3) := by decide +kernel
theorem dX4_at_5 : decode cX4_at 5 = .ok (.iload_n 1, 1) := by decide +kernel
theorem dX4_at_6 : decode cX4_at 6 = .ok (.aload_n 0, 1) := by decide +kernel
theorem dX4_at_7 : decode cX4_at 7 = .ok (.getfield 42, 3) := by decide +kernel
theorem dX4_at_10 : decode cX4_at 10 = .ok (.if_icmp .ge 21, 3) := by decide +kernel
theorem dX4_at_13 : decode cX4_at 13 = .ok (.iload_n 1, 1) := by decide +kernel
theorem dX4_at_14 : decode cX4_at 14 = .ok (.aload_n 0, 1) := by decide +kernel
theorem dX4_at_15 : decode cX4_at 15 = .ok (.getfield 18, 3) := by decide +kernel
theorem dX4_at_18 : decode cX4_at 18 = .ok (.arraylength, 1) := by decide +kernel
theorem dX4_at_19 : decode cX4_at 19 = .ok (.if_icmp .ge 12, 3) := by decide +kernel
theorem dX4_at_22 : decode cX4_at 22 = .ok (.aload_n 0, 1) := by decide +kernel
theorem dX4_at_23 : decode cX4_at 23 = .ok (.getfield 18, 3) := by decide +kernel
theorem dX4_at_26 : decode cX4_at 26 = .ok (.iload_n 1, 1) := by decide +kernel
theorem dX4_at_27 : decode cX4_at 27 = .ok (.iaload, 1) := by decide +kernel
theorem dX4_at_28 : decode cX4_at 28 = .ok (.goto 5, 3) := by decide +kernel
theorem dX4_at_31 : decode cX4_at 31 = .ok (.bipush (-9), 2) := by decide +kernel
theorem dX4_at_33 : decode cX4_at 33 = .ok (.ireturn, 1) := by decide +kernel
theorem dX4_goOn_0 : decode cX4_goOn 0 = .ok (.iload 5, 2) := by decide +kernel
theorem dX4_goOn_2 : decode cX4_goOn 2 = .ok (.aload_n 1, 1) := by decide +kernel
theorem dX4_goOn_3 : decode cX4_goOn 3 = .ok (.getfield 49, 3) := by decide +kernel
theorem dX4_goOn_6 : decode cX4_goOn 6 = .ok (.iload 6, 2) := by decide +kernel
theorem dX4_goOn_8 : decode cX4_goOn 8 = .ok (.imul, 1) := by decide +kernel
theorem dX4_goOn_9 : decode cX4_goOn 9 = .ok (.iadd, 1) := by decide +kernel
theorem dX4_goOn_10 : decode cX4_goOn 10 = .ok (.istore 7, 2) := by decide +kernel
theorem dX4_goOn_12 : decode cX4_goOn 12 = .ok (.iload 7, 2) := by decide +kernel
theorem dX4_goOn_14 : decode cX4_goOn 14 = .ok (.aload_n 0, 1) := by decide +kernel
theorem dX4_goOn_15 : decode cX4_goOn 15 = .ok (.getfield 42, 3) := by decide +kernel
theorem dX4_goOn_18 : decode cX4_goOn 18 = .ok (.iload_n 2, 1) := by decide +kernel
theorem dX4_goOn_19 : decode cX4_goOn 19 = .ok (.isub, 1) := by decide +kernel
theorem dX4_goOn_20 : decode cX4_goOn 20 = .ok (.aload_n 0, 1) := by decide +kernel
theorem dX4_goOn_21 : decode cX4_goOn 21 = .ok (.getfield 21, 3) := by decide +kernel
theorem dX4_goOn_24 : decode cX4_goOn 24 = .ok (.imul, 1) := by decide +kernel
theorem dX4_goOn_25 : decode cX4_goOn 25 = .ok (.iadd, 1) := by decide +kernel
theorem dX4_goOn_26 : decode cX4_goOn 26 = .ok (.aload_n 0, 1) := by decide +kernel
theorem dX4_goOn_27 : decode cX4_goOn 27 = .ok (.getfield 31, 3) := by decide +kernel
theorem dX4_goOn_30 : decode cX4_goOn 30 = .ok (.if_icmp .ge 4, 3) := by decide +kernel
theorem dX4_goOn_33 : decode cX4_goOn 33 = .ok (.return_, 1) := by decide +kernel
theorem dX4_goOn_34 : decode cX4_goOn 34 = .ok (.iload_n 2, 1) := by decide +kernel
theorem dX4_goOn_35 : decode cX4_goOn 35 = .ok (.aload_n 0, 1) := by decide +kernel
theorem dX4_goOn_36 : decode cX4_goOn 36 = .ok (.getfield 42, 3) := by decide +kernel
theorem dX4_goOn_39 : decode cX4_goOn 39 = .ok (.if_icmp .ge 12, 3) := by decide +kernel
theorem dX4_goOn_42 : decode cX4_goOn 42 = .ok (.iload_n 2, 1) := by decide +kernel
theorem dX4_goOn_43 : decode cX4_goOn 43 = .ok (.aload_n 0, 1) := by decide +kernel
theorem dX4_goOn_44 : decode cX4_goOn 44 = .ok (.getfield 15, 3) := by decide +kernel
theorem dX4_goOn_47 : decode cX4_goOn 47 = .ok (.arraylength, 1) := by decide +kernel
theorem dX4_goOn_48 : decode cX4_goOn 48 = .ok (.if_icmp .lt 28, 3) := by decide +kernel
theorem dX4_goOn_51 : decode cX4_goOn 51 = .ok (.aload_n 0, 1) := by decide +kernel
theorem dX4_goOn_52 : decode cX4_goOn 52 = .ok (.getfield 15, 3) := by decide +kernel
theorem dX4_goOn_55 : decode cX4_goOn 55 = .ok (.iconst 0, 1) := by decide +kernel
theorem dX4_goOn_56 : decode cX4_goOn 56 = .ok (.aload_n 0, 1) := by decide +kernel
theorem dX4_goOn_57 : decode cX4_goOn 57 = .ok (.getfield 18, 3) := by decide +kernel
theorem dX4_goOn_60 : decode cX4_goOn 60 = .ok (.iconst 0, 1) := by decide +kernel
theorem dX4_goOn_61 : decode cX4_goOn 61 = .ok (.aload_n 0, 1) := by decide +kernel
theorem dX4_goOn_62 : decode cX4_goOn 62 = .ok (.getfield 15, 3) := by decide +kernel
theorem dX4_goOn_65 : decode cX4_goOn 65 = .ok (.arraylength, 1) := by decide +kernel
theorem dX4_goOn_66 : decode cX4_goOn 66 = .ok (.invokestatic 52, 3) := by decide +kernel
theorem dX4_goOn_69 : decode cX4_goOn 69 = .ok (.aload_n 0, 1) := by decide +kernel
theorem dX4_goOn_70 : decode cX4_goOn 70 = .ok (.iload 6, 2) := by decide +kernel
theorem dX4_goOn_72 : decode cX4_goOn 72 = .ok (.putfield 34, 3) := by decide +kernel
theorem dX4_goOn_75 : decode cX4_goOn 75 = .ok (.return_, 1) := by decide +kernel
theorem dX4_goOn_76 : decode cX4_goOn 76 = .ok (.iconst 0, 1) := by decide +kernel
theorem dX4_goOn_77 : decode cX4_goOn 77 = .ok (.istore 8, 2) := by decide +kernel
theorem dX4_goOn_79 : decode cX4_goOn 79 = .ok (.iload 8, 2) := by decide +kernel
theorem dX4_goOn_81 : decode cX4_goOn 81 = .ok (.aload_n 1, 1) := by decide +kernel
theorem dX4_goOn_82 : decode cX4_goOn 82 = .ok (.getfield 37, 3) := by decide +kernel
theorem dX4_goOn_85 : decode cX4_goOn 85 = .ok (.if_icmp .ge 112, 3) := by decide +kernel
theorem dX4_goOn_88 : decode cX4_goOn 88 = .ok (.iload 8, 2) := by decide +kernel
theorem dX4_goOn_90 : decode cX4_goOn 90 = .ok (.aload_n 0, 1) := by decide +kernel
theorem dX4_goOn_91 : decode cX4_goOn 91 = .ok (.getfield 9, 3) := by decide +kernel
theorem dX4_goOn_94 : decode cX4_goOn 94 = .ok (.arraylength, 1) := by decide +kernel
theorem dX4_goOn_95 : decode cX4_goOn 95 = .ok (.if_icmp .ge 102, 3) := by decide +kernel
theorem dX4_goOn_98 : decode cX4_goOn 98 = .ok (.aload_n 1, 1) := by decide +kernel
theorem dX4_goOn_99 : decode cX4_goOn 99 = .ok (.iload 4, 2) := by decide +kernel
theorem dX4_goOn_101 : decode cX4_goOn 101 = .ok (.iload 8, 2) := by decide +kernel
theorem dX4_goOn_103 : decode cX4_goOn 103 = .ok (.invokevirtual 58, 3) := by decide +kernel
theorem dX4_goOn_106 : decode cX4_goOn 106 = .ok (.istore 9, 2) := by decide +kernel
theorem dX4_goOn_108 : decode cX4_goOn 108 = .ok (.iload 9, 2) := by decide +kernel
theorem dX4_goOn_110 : decode cX4_goOn 110 = .ok (.bipush (-9), 2) := by decide +kernel
theorem dX4_goOn_112 : decode cX4_goOn 112 = .ok (.if_icmp .eq 79, 3) := by decide +kernel
theorem dX4_goOn_115 : decode cX4_goOn 115 = .ok (.iload_n 3, 1) := by decide +kernel
theorem dX4_goOn_116 : decode cX4_goOn 116 = .ok (.iload 8, 2) := by decide +kernel
theorem dX4_goOn_118 : decode cX4_goOn 118 = .ok (.ishr, 1) := by decide +kernel
theorem dX4_goOn_119 : decode cX4_goOn 119 = .ok (.iconst 1, 1) := by decide +kernel
theorem dX4_goOn_120 : decode cX4_goOn 120 = .ok (.iand, 1) := by decide +kernel
theorem dX4_goOn_121 : decode cX4_goOn 121 = .ok (.ifCond .ne 70, 3) := by decide +kernel
theorem dX4_goOn_124 : decode cX4_goOn 124 = .ok (.aload_n 0, 1) := by decide +kernel
theorem dX4_goOn_125 : decode cX4_goOn 125 = .ok (.aload_n 1, 1) := by decide +kernel
theorem dX4_goOn_126 : decode cX4_goOn 126 = .ok (.iload 8, 2) := by decide +kernel
theorem dX4_goOn_128 : decode cX4_goOn 128 = .ok (.iload 9, 2) := by decide +kernel
theorem dX4_goOn_130 : decode cX4_goOn 130 = .ok (.iload 5, 2) := by decide +kernel
theorem dX4_goOn_132 : decode cX4_goOn 132 = .ok (.iload 6, 2) := by decide +kernel
theorem dX4_goOn_134 : decode cX4_goOn 134 = .ok (.invokevirtual 61, 3) := by decide +kernel
theorem dX4_goOn_137 : decode cX4_goOn 137 = .ok (.ifCond .eq 54, 3) := by decide +kernel
theorem dX4_goOn_140 : decode cX4_goOn 140 = .ok (.aload_n 0, 1) := by decide +kernel
theorem dX4_goOn_141 : decode cX4_goOn 141 = .ok (.getfield 15, 3) := by decide +kernel
theorem dX4_goOn_144 : decode cX4_goOn 144 = .ok (.iload_n 2, 1) := by decide +kernel
theorem dX4_goOn_145 : decode cX4_goOn 145 = .ok (.iload 8, 2) := by decide +kernel
theorem dX4_goOn_147 : decode cX4_goOn 147 = .ok (.iastore, 1) := by decide +kernel
theorem dX4_goOn_148 : decode cX4_goOn 148 = .ok (.iload 5, 2) := by decide +kernel
theorem dX4_goOn_150 : decode cX4_goOn 150 = .ok (.aload_n 1, 1) := by decide +kernel
theorem dX4_goOn_151 : decode cX4_goOn 151 = .ok (.getfield 49, 3) := by decide +kernel
theorem dX4_goOn_154 : decode cX4_goOn 154 = .ok (.iload 9, 2) := by decide +kernel
theorem dX4_goOn_156 : decode cX4_goOn 156 = .ok (.imul, 1) := by decide +kernel
theorem dX4_goOn_157 : decode cX4_goOn 157 = .ok (.isub, 1) := by decide +kernel
theorem dX4_goOn_158 : decode cX4_goOn 158 = .ok (.aload_n 0, 1) := by decide +kernel
theorem dX4_goOn_159 : decode cX4_goOn 159 = .ok (.getfield 9, 3) := by decide +kernel
theorem dX4_goOn_162 : decode cX4_goOn 162 = .ok (.iload 8, 2) := by decide +kernel
theorem dX4_goOn_164 : decode cX4_goOn 164 = .ok (.iaload, 1) := by decide +kernel
theorem dX4_goOn_165 : decode cX4_goOn 165 = .ok (.iadd, 1) := by decide +kernel
theorem dX4_goOn_166 : decode cX4_goOn 166 = .ok (.istore 10, 2) := by decide +kernel
theorem dX4_goOn_168 : decode cX4_goOn 168 = .ok (.aload_n 0, 1) := by decide +kernel
theorem dX4_goOn_169 : decode cX4_goOn 169 = .ok (.aload_n 1, 1) := by decide +kernel
theorem dX4_goOn_170 : decode cX4_goOn 170 = .ok (.iload_n 2, 1) := by decide +kernel
theorem dX4_goOn_171 : decode cX4_goOn 171 = .ok (.iconst 1, 1) := by decide +kernel
theorem dX4_goOn_172 : decode cX4_goOn 172 = .ok (.iadd, 1) := by decide +kernel
theorem dX4_goOn_173 : decode cX4_goOn 173 = .ok (.iload_n 3, 1) := by decide +kernel
theorem dX4_goOn_174 : decode cX4_goOn 174 = .ok (.iconst 1, 1) := by decide +kernel
theorem dX4_goOn_175 : decode cX4_goOn 175 = .ok (.iload 8, 2) := by decide +kernel
theorem dX4_goOn_177 : decode cX4_goOn 177 = .ok (.ishl, 1) := by decide +kernel
theorem dX4_goOn_178 : decode cX4_goOn 178 = .ok (.ior, 1) := by decide +kernel
theorem dX4_goOn_179 : decode cX4_goOn 179 = .ok (.iload 8, 2) := by decide +kernel
theorem dX4_goOn_181 : decode cX4_goOn 181 = .ok (.iload 10, 2) := by decide +kernel
theorem dX4_goOn_183 : decode cX4_goOn 183 = .ok (.iload 6, 2) := by decide +kernel
theorem dX4_goOn_185 : decode cX4_goOn 185 = .ok (.iload 9, 2) := by decide +kernel
theorem dX4_goOn_187 : decode cX4_goOn 187 = .ok (.iadd, 1) := by decide +kernel
theorem dX4_goOn_188 : decode cX4_goOn 188 = .ok (.invokevirtual 45, 3) := by decide +kernel
theorem dX4_goOn_191 : decode cX4_goOn 191 = .ok (.iinc 8 1, 3) := by decide +kernel
theorem dX4_goOn_194 : decode cX4_goOn 194 = .ok (.goto (-115), 3) := by decide +kernel
theorem dX4_goOn_197 : decode cX4_goOn 197 = .ok (.return_, 1) := by decide +kernel
theorem dX4_isWorthGoing_0 : decode cX4_isWorthGoing 0 = .ok (.aload_n 0, 1) := by decide +kernel
theorem dX4_isWorthGoing_1 : decode cX4_isWorthGoing 1 = .ok (.getfield 34, 3) := by decide +kernel
theorem dX4_isWorthGoing_4 : decode cX4_isWorthGoing 4 = .ok (.bipush (-9), 2) := by decide +kernel
theorem dX4_isWorthGoing_6 : decode cX4_isWorthGoing 6 = .ok (.if_icmp .eq 14, 3) := by decide +kernel
theorem dX4_isWorthGoing_9 : decode cX4_isWorthGoing 9 = .ok (.iload 5, 2) := by decide +kernel
theorem dX4_isWorthGoing_11 : decode cX4_isWorthGoing 11 = .ok (.iload_n 3, 1) := by decide +kernel
theorem dX4_isWorthGoing_12 : decode cX4_isWorthGoing 12 = .ok (.iadd, 1) := by decide +kernel
theorem dX4_isWorthGoing_13 : decode cX4_isWorthGoing 13 = .ok (.aload_n 0, 1) := by decide +kernel
theorem dX4_isWorthGoing_14 : decode cX4_isWorthGoing 14 = .ok (.getfield 34, 3) := by decide +kernel
theorem dX4_isWorthGoing_17 : decode cX4_isWorthGoing 17 = .ok (.if_icmp .ge 7, 3) := by decide +kernel
theorem dX4_isWorthGoing_20 : decode cX4_isWorthGoing 20 = .ok (.iconst 1, 1) := by decide +kernel
theorem dX4_isWorthGoing_21 : decode cX4_isWorthGoing 21 = .ok (.goto 4, 3) := by decide +kernel
theorem dX4_isWorthGoing_24 : decode cX4_isWorthGoing 24 = .ok (.iconst 0, 1) := by decide +kernel
theorem dX4_isWorthGoing_25 : decode cX4_isWorthGoing 25 = .ok (.istore 6, 2) := by decide +kernel
theorem dX4_isWorthGoing_27 : decode cX4_isWorthGoing 27 = .ok (.iload 6, 2) := by decide +kernel
theorem dX4_isWorthGoing_29 : decode cX4_isWorthGoing 29 = .ok (.ifCond .eq 41, 3) := by decide +kernel
theorem dX4_isWorthGoing_32 : decode cX4_isWorthGoing 32 = .ok (.iconst 0, 1) := by decide +kernel
theorem dX4_isWorthGoing_33 : decode cX4_isWorthGoing 33 = .ok (.iload_n 2, 1) := by decide +kernel
theorem dX4_isWorthGoing_34 : decode cX4_isWorthGoing 34 = .ok (.if_icmp .gt 36, 3) := by decide +kernel
theorem dX4_isWorthGoing_37 : decode cX4_isWorthGoing 37 = .ok (.iload_n 2, 1) := by decide +kernel
theorem dX4_isWorthGoing_38 : decode cX4_isWorthGoing 38 = .ok (.aload_n 0, 1) := by decide +kernel
theorem dX4_isWorthGoing_39 : decode cX4_isWorthGoing 39 = .ok (.getfield 9, 3) := by decide +kernel
theorem dX4_isWorthGoing_42 : decode cX4_isWorthGoing 42 = .ok (.arraylength, 1) := by decide +kernel
theorem dX4_isWorthGoing_43 : decode cX4_isWorthGoing 43 = .ok (.if_icmp .ge 27, 3) := by decide +kernel
theorem dX4_isWorthGoing_46 : decode cX4_isWorthGoing 46 = .ok (.aload_n 0, 1) := by decide +kernel
theorem dX4_isWorthGoing_47 : decode cX4_isWorthGoing 47 = .ok (.getfield 9, 3) := by decide +kernel
theorem dX4_isWorthGoing_50 : decode cX4_isWorthGoing 50 = .ok (.iload_n 2, 1) := by decide +kernel
theorem dX4_isWorthGoing_51 : decode cX4_isWorthGoing 51 = .ok (.iaload, 1) := by decide +kernel
theorem dX4_isWorthGoing_52 : decode cX4_isWorthGoing 52 = .ok (.ifCond .le 18, 3) := by decide +kernel
theorem dX4_isWorthGoing_55 : decode cX4_isWorthGoing 55 = .ok (.iload 4, 2) := by decide +kernel
theorem dX4_isWorthGoing_57 : decode cX4_isWorthGoing 57 = .ok (.aload_n 1, 1) := by decide +kernel
theorem dX4_isWorthGoing_58 : decode cX4_isWorthGoing 58 = .ok (.getfield 49, 3) := by decide +kernel
theorem dX4_isWorthGoing_61 : decode cX4_isWorthGoing 61 = .ok (.iload_n 3, 1) := by decide +kernel
theorem dX4_isWorthGoing_62 : decode cX4_isWorthGoing 62 = .ok (.imul, 1) := by decide +kernel
theorem dX4_isWorthGoing_63 : decode cX4_isWorthGoing 63 = .ok (.if_icmp .lt 7, 3) := by decide +kernel
theorem dX4_isWorthGoing_66 : decode cX4_isWorthGoing 66 = .ok (.iconst 1, 1) := by decide +kernel
theorem dX4_isWorthGoing_67 : decode cX4_isWorthGoing 67 = .ok (.goto 4, 3) := by decide +kernel
theorem dX4_isWorthGoing_70 : decode cX4_isWorthGoing 70 = .ok (.iconst 0, 1) := by decide +kernel
theorem dX4_isWorthGoing_71 : decode cX4_isWorthGoing 71 = .ok (.ireturn, 1) := by decide +kernel
theorem dJ6_bitCount_0f7a4_0 : decode cJ6_bitCount_0f7a4 0 = .ok (.iload_n 0, 1) := by decide +kernel
theorem dJ6_bitCount_0f7a4_1 : decode cJ6_bitCount_0f7a4 1 = .ok (.iload_n 0, 1) := by decide +kernel
theorem dJ6_bitCount_0f7a4_2 : decode cJ6_bitCount_0f7a4 2 = .ok (.iconst 1, 1) := by decide +kernel
theorem dJ6_bitCount_0f7a4_3 : decode cJ6_bitCount_0f7a4 3 = .ok (.iushr, 1) := by decide +kernel
theorem dJ6_bitCount_0f7a4_4 : decode cJ6_bitCount_0f7a4 4 = .ok (.ldc_w 265, 3) := by decide +kernel
theorem dJ6_bitCount_0f7a4_7 : decode cJ6_bitCount_0f7a4 7 = .ok (.iand, 1) := by decide +kernel
theorem dJ6_bitCount_0f7a4_8 : decode cJ6_bitCount_0f7a4 8 = .ok (.isub, 1) := by decide +kernel
theorem dJ6_bitCount_0f7a4_9 : decode cJ6_bitCount_0f7a4 9 = .ok (.istore_n 0, 1) := by decide +kernel
theorem dJ6_bitCount_0f7a4_10 : decode cJ6_bitCount_0f7a4 10 = .ok (.iload_n 0, 1) := by decide +kernel
theorem dJ6_bitCount_0f7a4_11 : decode cJ6_bitCount_0f7a4 11 = .ok (.ldc_w 266, 3) := by decide +kernel
theorem dJ6_bitCount_0f7a4_14 : decode cJ6_bitCount_0f7a4 14 = .ok (.iand, 1) := by decide +kernel
theorem dJ6_bitCount_0f7a4_15 : decode cJ6_bitCount_0f7a4 15 = .ok (.iload_n 0, 1) := by decide +kernel
theorem dJ6_bitCount_0f7a4_16 : decode cJ6_bitCount_0f7a4 16 = .ok (.iconst 2, 1) := by decide +kernel
theorem dJ6_bitCount_0f7a4_17 : decode cJ6_bitCount_0f7a4 17 = .ok (.iushr, 1) := by decide +kernel
theorem dJ6_bitCount_0f7a4_18 : decode cJ6_bitCount_0f7a4 18 = .ok (.ldc_w 266, 3) := by decide +kernel
theorem dJ6_bitCount_0f7a4_21 : decode cJ6_bitCount_0f7a4 21 = .ok (.iand, 1) := by decide +kernel
theorem dJ6_bitCount_0f7a4_22 : decode cJ6_bitCount_0f7a4 22 = .ok (.iadd, 1) := by decide +kernel
theorem dJ6_bitCount_0f7a4_23 : decode cJ6_bitCount_0f7a4 23 = .ok (.istore_n 0, 1) := by decide +kernel
theorem dJ6_bitCount_0f7a4_24 : decode cJ6_bitCount_0f7a4 24 = .ok (.iload_n 0, 1) := by decide +kernel
theorem dJ6_bitCount_0f7a4_25 : decode cJ6_bitCount_0f7a4 25 = .ok (.iload_n 0, 1) := by decide +kernel
theorem dJ6_bitCount_0f7a4_26 : decode cJ6_bitCount_0f7a4 26 = .ok (.iconst 4, 1) := by decide +kernel
theorem dJ6_bitCount_0f7a4_27 : decode cJ6_bitCount_0f7a4 27 = .ok (.iushr, 1) := by decide +kernel
theorem dJ6_bitCount_0f7a4_28 : decode cJ6_bitCount_0f7a4 28 = .ok (.iadd, 1) := by decide +kernel
theorem dJ6_bitCount_0f7a4_29 : decode cJ6_bitCount_0f7a4 29 = .ok (.ldc_w 267, 3) := by decide +kernel
theorem dJ6_bitCount_0f7a4_32 : decode cJ6_bitCount_0f7a4 32 = .ok (.iand, 1) := by decide +kernel
theorem dJ6_bitCount_0f7a4_33 : decode cJ6_bitCount_0f7a4 33 = .ok (.istore_n 0, 1) := by decide +kernel
theorem dJ6_bitCount_0f7a4_34 : decode cJ6_bitCount_0f7a4 34 = .ok (.iload_n 0, 1) := by decide +kernel
theorem dJ6_bitCount_0f7a4_35 : decode cJ6_bitCount_0f7a4 35 = .ok (.iload_n 0, 1) := by decide +kernel
theorem dJ6_bitCount_0f7a4_36 : decode cJ6_bitCount_0f7a4 36 = .ok (.bipush 8, 2) := by decide +kernel
theorem dJ6_bitCount_0f7a4_38 : decode cJ6_bitCount_0f7a4 38 = .ok (.iushr, 1) := by decide +kernel
theorem dJ6_bitCount_0f7a4_39 : decode cJ6_bitCount_0f7a4 39 = .ok (.iadd, 1) := by decide +kernel
theorem dJ6_bitCount_0f7a4_40 : decode cJ6_bitCount_0f7a4 40 = .ok (.istore_n 0, 1) := by decide +kernel
theorem dJ6_bitCount_0f7a4_41 : decode cJ6_bitCount_0f7a4 41 = .ok (.iload_n 0, 1) := by decide +kernel
theorem dJ6_bitCount_0f7a4_42 : decode cJ6_bitCount_0f7a4 42 = .ok (.iload_n 0, 1) := by decide +kernel
theorem dJ6_bitCount_0f7a4_43 : decode cJ6_bitCount_0f7a4 43 = .ok (.bipush 16, 2) := by decide +kernel
theorem dJ6_bitCount_0f7a4_45 : decode cJ6_bitCount_0f7a4 45 = .ok (.iushr, 1) := by decide +kernel
theorem dJ6_bitCount_0f7a4_46 : decode cJ6_bitCount_0f7a4 46 = .ok (.iadd, 1) := by decide +kernel
theorem dJ6_bitCount_0f7a4_47 : decode cJ6_bitCount_0f7a4 47 = .ok (.istore_n 0, 1) := by decide +kernel
theorem dJ6_bitCount_0f7a4_48 : decode cJ6_bitCount_0f7a4 48 = .ok (.iload_n 0, 1) := by decide +kernel
theorem dJ6_bitCount_0f7a4_49 : decode cJ6_bitCount_0f7a4 49 = .ok (.bipush 63, 2) := by decide +kernel
theorem dJ6_bitCount_0f7a4_51 : decode cJ6_bitCount_0f7a4 51 = .ok (.iand, 1) := by decide +kernel
theorem dJ6_bitCount_0f7a4_52 : decode cJ6_bitCount_0f7a4 52 = .ok (.ireturn, 1) := by decide +kernel
theorem dJ9_max_7cf53_0 : decode cJ9_max_7cf53 0 = .ok (.iload_n 0, 1) := by decide +kernel
theorem dJ9_max_7cf53_1 : decode cJ9_max_7cf53 1 = .ok (.iload_n 1, 1) := by decide +kernel
theorem dJ9_max_7cf53_2 : decode cJ9_max_7cf53 2 = .ok (.if_icmp .lt 7, 3) := by decide +kernel
theorem dJ9_max_7cf53_5 : decode cJ9_max_7cf53 5 = .ok (.iload_n 0, 1) := by decide +kernel
theorem dJ9_max_7cf53_6 : decode cJ9_max_7cf53 6 = .ok (.goto 4, 3) := by decide +kernel
theorem dJ9_max_7cf53_9 : decode cJ9_max_7cf53 9 = .ok (.iload_n 1, 1) := by decide +kernel
theorem dJ9_max_7cf53_10 : decode cJ9_max_7cf53 10 = .ok (.ireturn, 1) := by decide +kernel
theorem dJ9_min_7cf53_0 : decode cJ9_min_7cf53 0 = .ok (.iload_n 0, 1) := by decide +kernel
theorem dJ9_min_7cf53_1 : decode cJ9_min_7cf53 1 = .ok (.iload_n 1, 1) := by decide +kernel
theorem dJ9_min_7cf53_2 : decode cJ9_min_7cf53 2 = .ok (.if_icmp .gt 7, 3) := by decide +kernel
theorem dJ9_min_7cf53_5 : decode cJ9_min_7cf53 5 = .ok (.iload_n 0, 1) := by decide +kernel
theorem dJ9_min_7cf53_6 : decode cJ9_min_7cf53 6 = .ok (.goto 4, 3) := by decide +kernel
theorem dJ9_min_7cf53_9 : decode cJ9_min_7cf53 9 = .ok (.iload_n 1, 1) := by decide +kernel
theorem dJ9_min_7cf53_10 : decode cJ9_min_7cf53 10 = .ok (.ireturn, 1) := by decide +kernel
theorem dJ7_fill_53178_0 : decode cJ7_fill_53178 0 = .ok (.iconst 0, 1) := by decide +kernel
theorem dJ7_fill_53178_1 : decode cJ7_fill_53178 1 = .ok (.istore_n 2, 1) := by decide +kernel
theorem dJ7_fill_53178_2 : decode cJ7_fill_53178 2 = .ok (.aload_n 0, 1) := by decide +kernel
theorem dJ7_fill_53178_3 : decode cJ7_fill_53178 3 = .ok (.arraylength, 1) := by decide +kernel
theorem dJ7_fill_53178_4 : decode cJ7_fill_53178 4 = .ok (.istore_n 3, 1) := by decide +kernel
theorem dJ7_fill_53178_5 : decode cJ7_fill_53178 5 = .ok (.iload_n 2, 1) := by decide +kernel
theorem dJ7_fill_53178_6 : decode cJ7_fill_53178 6 = .ok (.iload_n 3, 1) := by decide +kernel
theorem dJ7_fill_53178_7 : decode cJ7_fill_53178 7 = .ok (.if_icmp .ge 13, 3) := by decide +kernel
theorem dJ7_fill_53178_10 : decode cJ7_fill_53178 10 = .ok (.aload_n 0, 1) := by decide +kernel
theorem dJ7_fill_53178_11 : decode cJ7_fill_53178 11 = .ok (.iload_n 2, 1) := by decide +kernel
theorem dJ7_fill_53178_12 : decode cJ7_fill_53178 12 = .ok (.iload_n 1, 1) := by decide +kernel
theorem dJ7_fill_53178_13 : decode cJ7_fill_53178 13 = .ok (.iastore, 1) := by decide +kernel
theorem dJ7_fill_53178_14 : decode cJ7_fill_53178 14 = .ok (.iinc 2 1, 3) := by decide +kernel
theorem dJ7_fill_53178_17 : decode cJ7_fill_53178 17 = .ok (.goto (-12), 3) := by decide +kernel
theorem dJ7_fill_53178_20 : decode cJ7_fill_53178 20 = .ok (.return_, 1) := by decide +kernel
