theorem dX0_init_0 : decode cX0_init 0 = .ok (.aload_n 0, 1) := by decide +kernel
theorem dX0_init_1 : decode cX0_init 1 = .ok (.invokespecial 3, 3) := by decide +kernel
theorem dX0_init_4 : decode cX0_init 4 = .ok (.aload_n 0, 1) := by decide +kernel
theorem dX0_init_5 : decode cX0_init 5 = .ok (.sipush 288, 3) := by decide +kernel
theorem dX0_init_8 : decode cX0_init 8 = .ok (.newarray .int, 2) := by decide +kernel
theorem dX0_init_10 : decode cX0_init 10 = .ok (.putfield 9, 3) := by decide +kernel
theorem dX0_init_13 : decode cX0_init 13 = .ok (.aload_n 0, 1) := by decide +kernel
theorem dX0_init_14 : decode cX0_init 14 = .ok (.sipush 288, 3) := by decide +kernel
theorem dX0_init_17 : decode cX0_init 17 = .ok (.newarray .int, 2) := by decide +kernel
theorem dX0_init_19 : decode cX0_init 19 = .ok (.putfield 15, 3) := by decide +kernel
theorem dX0_init_22 : decode cX0_init 22 = .ok (.return_, 1) := by decide +kernel
theorem dX0_copy_0 : decode cX0_copy 0 = .ok (.aload_n 1, 1) := by decide +kernel
theorem dX0_copy_1 : decode cX0_copy 1 = .ok (.getfield 9, 3) := by decide +kernel
theorem dX0_copy_4 : decode cX0_copy 4 = .ok (.aload_n 0, 1) := by decide +kernel
theorem dX0_copy_5 : decode cX0_copy 5 = .ok (.getfield 9, 3) := by decide +kernel
theorem dX0_copy_8 : decode cX0_copy 8 = .ok (.invokestatic 18, 3) := by decide +kernel
theorem dX0_copy_11 : decode cX0_copy 11 = .ok (.aload_n 1, 1) := by decide +kernel
theorem dX0_copy_12 : decode cX0_copy 12 = .ok (.getfield 15, 3) := by decide +kernel
theorem dX0_copy_15 : decode cX0_copy 15 = .ok (.aload_n 0, 1) := by decide +kernel
theorem dX0_copy_16 : decode cX0_copy 16 = .ok (.getfield 15, 3) := by decide +kernel
theorem dX0_copy_19 : decode cX0_copy 19 = .ok (.invokestatic 18, 3) := by decide +kernel
theorem dX0_copy_22 : decode cX0_copy 22 = .ok (.return_, 1) := by decide +kernel
theorem dX0_cellOf_0 : decode cX0_cellOf 0 = .ok (.iload_n 0, 1) := by decide +kernel
theorem dX0_cellOf_1 : decode cX0_cellOf 1 = .ok (.bipush 48, 2) := by decide +kernel
theorem dX0_cellOf_3 : decode cX0_cellOf 3 = .ok (.imul, 1) := by decide +kernel
theorem dX0_cellOf_4 : decode cX0_cellOf 4 = .ok (.iload_n 1, 1) := by decide +kernel
theorem dX0_cellOf_5 : decode cX0_cellOf 5 = .ok (.iadd, 1) := by decide +kernel
theorem dX0_cellOf_6 : decode cX0_cellOf 6 = .ok (.ireturn, 1) := by decide +kernel
theorem dX0_offer_0 : decode cX0_offer 0 = .ok (.aload_n 0, 1) := by decide +kernel
theorem dX0_offer_1 : decode cX0_offer 1 = .ok (.getfield 15, 3) := by decide +kernel
theorem dX0_offer_4 : decode cX0_offer 4 = .ok (.iload_n 1, 1) := by decide +kernel
theorem dX0_offer_5 : decode cX0_offer 5 = .ok (.iload_n 2, 1) := by decide +kernel
theorem dX0_offer_6 : decode cX0_offer 6 = .ok (.invokestatic 24, 3) := by decide +kernel
theorem dX0_offer_9 : decode cX0_offer 9 = .ok (.invokestatic 28, 3) := by decide +kernel
theorem dX0_offer_12 : decode cX0_offer 12 = .ok (.ireturn, 1) := by decide +kernel
theorem dX0_weight_0 : decode cX0_weight 0 = .ok (.aload_n 0, 1) := by decide +kernel
theorem dX0_weight_1 : decode cX0_weight 1 = .ok (.getfield 9, 3) := by decide +kernel
theorem dX0_weight_4 : decode cX0_weight 4 = .ok (.iload_n 1, 1) := by decide +kernel
theorem dX0_weight_5 : decode cX0_weight 5 = .ok (.iload_n 2, 1) := by decide +kernel
theorem dX0_weight_6 : decode cX0_weight 6 = .ok (.invokestatic 24, 3) := by decide +kernel
theorem dX0_weight_9 : decode cX0_weight 9 = .ok (.invokestatic 28, 3) := by decide +kernel
theorem dX0_weight_12 : decode cX0_weight 12 = .ok (.ireturn, 1) := by decide +kernel
theorem dX0_set_0 : decode cX0_set 0 = .ok (.aload_n 0, 1) := by decide +kernel
theorem dX0_set_1 : decode cX0_set 1 = .ok (.getfield 9, 3) := by decide +kernel
theorem dX0_set_4 : decode cX0_set 4 = .ok (.iload_n 1, 1) := by decide +kernel
theorem dX0_set_5 : decode cX0_set 5 = .ok (.iload_n 2, 1) := by decide +kernel
theorem dX0_set_6 : decode cX0_set 6 = .ok (.invokestatic 24, 3) := by decide +kernel
theorem dX0_set_9 : decode cX0_set 9 = .ok (.iload_n 3, 1) := by decide +kernel
theorem dX0_set_10 : decode cX0_set 10 = .ok (.invokestatic 32, 3) := by decide +kernel
theorem dX0_set_13 : decode cX0_set 13 = .ok (.aload_n 0, 1) := by decide +kernel
theorem dX0_set_14 : decode cX0_set 14 = .ok (.getfield 15, 3) := by decide +kernel
theorem dX0_set_17 : decode cX0_set 17 = .ok (.iload_n 1, 1) := by decide +kernel
theorem dX0_set_18 : decode cX0_set 18 = .ok (.iload_n 2, 1) := by decide +kernel
theorem dX0_set_19 : decode cX0_set 19 = .ok (.invokestatic 24, 3) := by decide +kernel
theorem dX0_set_22 : decode cX0_set 22 = .ok (.iload 4, 2) := by decide +kernel
theorem dX0_set_24 : decode cX0_set 24 = .ok (.invokestatic 32, 3) := by decide +kernel
theorem dX0_set_27 : decode cX0_set 27 = .ok (.return_, 1) := by decide +kernel
theorem dX0_remove_0 : decode cX0_remove 0 = .ok (.aload_n 0, 1) := by decide +kernel
theorem dX0_remove_1 : decode cX0_remove 1 = .ok (.iload_n 1, 1) := by decide +kernel
theorem dX0_remove_2 : decode cX0_remove 2 = .ok (.iload_n 2, 1) := by decide +kernel
theorem dX0_remove_3 : decode cX0_remove 3 = .ok (.iconst 0, 1) := by decide +kernel
theorem dX0_remove_4 : decode cX0_remove 4 = .ok (.iconst 0, 1) := by decide +kernel
theorem dX0_remove_5 : decode cX0_remove 5 = .ok (.invokevirtual 36, 3) := by decide +kernel
theorem dX0_remove_8 : decode cX0_remove 8 = .ok (.return_, 1) := by decide +kernel
theorem dX0_removeAll_0 : decode cX0_removeAll 0 = .ok (.iconst 0, 1) := by decide +kernel
theorem dX0_removeAll_1 : decode cX0_removeAll 1 = .ok (.istore_n 2, 1) := by decide +kernel
theorem dX0_removeAll_2 : decode cX0_removeAll 2 = .ok (.iload_n 2, 1) := by decide +kernel
theorem dX0_removeAll_3 : decode cX0_removeAll 3 = .ok (.bipush 6, 2) := by decide +kernel
theorem dX0_removeAll_5 : decode cX0_removeAll 5 = .ok (.if_icmp .ge 17, 3) := by decide +kernel
theorem dX0_removeAll_8 : decode cX0_removeAll 8 = .ok (.aload_n 0, 1) := by decide +kernel
theorem dX0_removeAll_9 : decode cX0_removeAll 9 = .ok (.iload_n 2, 1) := by decide +kernel
theorem dX0_removeAll_10 : decode cX0_removeAll 10 = .ok (.iload_n 1, 1) := by decide +kernel
theorem dX0_removeAll_11 : decode cX0_removeAll 11 = .ok (.iconst 0, 1) := by decide +kernel
theorem dX0_removeAll_12 : decode cX0_removeAll 12 = .ok (.iconst 0, 1) := by decide +kernel
theorem dX0_removeAll_13 : decode cX0_removeAll 13 = .ok (.invokevirtual 36, 3) := by decide +kernel
theorem dX0_removeAll_16 : decode cX0_removeAll 16 = .ok (.iinc 2 1, 3) := by decide +kernel
theorem dX0_removeAll_19 : decode cX0_removeAll 19 = .ok (.goto (-17), 3) := by decide +kernel
theorem dX0_removeAll_22 : decode cX0_removeAll 22 = .ok (.return_, 1) := by decide +kernel
theorem dX0_countFor_0 : decode cX0_countFor 0 = .ok (.iconst 0, 1) := by decide +kernel
theorem dX0_countFor_1 : decode cX0_countFor 1 = .ok (.istore_n 2, 1) := by decide +kernel
theorem dX0_countFor_2 : decode cX0_countFor 2 = .ok (.iconst 0, 1) := by decide +kernel
theorem dX0_countFor_3 : decode cX0_countFor 3 = .ok (.istore_n 3, 1) := by decide +kernel
theorem dX0_countFor_4 : decode cX0_countFor 4 = .ok (.iload_n 3, 1) := by decide +kernel
theorem dX0_countFor_5 : decode cX0_countFor 5 = .ok (.bipush 6, 2) := by decide +kernel
theorem dX0_countFor_7 : decode cX0_countFor 7 = .ok (.if_icmp .ge 32, 3) := by decide +kernel
theorem dX0_countFor_10 : decode cX0_countFor 10 = .ok (.iload_n 2, 1) := by decide +kernel
theorem dX0_countFor_11 : decode cX0_countFor 11 = .ok (.aload_n 0, 1) := by decide +kernel
theorem dX0_countFor_12 : decode cX0_countFor 12 = .ok (.getfield 15, 3) := by decide +kernel
theorem dX0_countFor_15 : decode cX0_countFor 15 = .ok (.iload_n 3, 1) := by decide +kernel
theorem dX0_countFor_16 : decode cX0_countFor 16 = .ok (.iload_n 1, 1) := by decide +kernel
theorem dX0_countFor_17 : decode cX0_countFor 17 = .ok (.invokestatic 24, 3) := by decide +kernel
theorem dX0_countFor_20 : decode cX0_countFor 20 = .ok (.invokestatic 28, 3) := by decide +kernel
theorem dX0_countFor_23 : decode cX0_countFor 23 = .ok (.ifCond .le 7, 3) := by decide +kernel
theorem dX0_countFor_26 : decode cX0_countFor 26 = .ok (.iconst 1, 1) := by decide +kernel
theorem dX0_countFor_27 : decode cX0_countFor 27 = .ok (.goto 4, 3) := by decide +kernel
theorem dX0_countFor_30 : decode cX0_countFor 30 = .ok (.iconst 0, 1) := by decide +kernel
theorem dX0_countFor_31 : decode cX0_countFor 31 = .ok (.iadd, 1) := by decide +kernel
theorem dX0_countFor_32 : decode cX0_countFor 32 = .ok (.istore_n 2, 1) := by decide +kernel
theorem dX0_countFor_33 : decode cX0_countFor 33 = .ok (.iinc 3 1, 3) := by decide +kernel
theorem dX0_countFor_36 : decode cX0_countFor 36 = .ok (.goto (-32), 3) := by decide +kernel
theorem dX0_countFor_39 : decode cX0_countFor 39 = .ok (.iload_n 2, 1) := by decide +kernel
theorem dX0_countFor_40 : decode cX0_countFor 40 = .ok (.ireturn, 1) := by decide +kernel
theorem dX0_countOf_0 : decode cX0_countOf 0 = .ok (.iconst 0, 1) := by decide +kernel
theorem dX0_countOf_1 : decode cX0_countOf 1 = .ok (.istore_n 2, 1) := by decide +kernel
theorem dX0_countOf_2 : decode cX0_countOf 2 = .ok (.iconst 0, 1) := by decide +kernel
theorem dX0_countOf_3 : decode cX0_countOf 3 = .ok (.istore_n 3, 1) := by decide +kernel
theorem dX0_countOf_4 : decode cX0_countOf 4 = .ok (.iload_n 3, 1) := by decide +kernel
theorem dX0_countOf_5 : decode cX0_countOf 5 = .ok (.bipush 48, 2) := by decide +kernel
theorem dX0_countOf_7 : decode cX0_countOf 7 = .ok (.if_icmp .ge 32, 3) := by decide +kernel
theorem dX0_countOf_10 : decode cX0_countOf 10 = .ok (.iload_n 2, 1) := by decide +kernel
theorem dX0_countOf_11 : decode cX0_countOf 11 = .ok (.aload_n 0, 1) := by decide +kernel
theorem dX0_countOf_12 : decode cX0_countOf 12 = .ok (.getfield 15, 3) := by decide +kernel
theorem dX0_countOf_15 : decode cX0_countOf 15 = .ok (.iload_n 1, 1) := by decide +kernel
theorem dX0_countOf_16 : decode cX0_countOf 16 = .ok (.iload_n 3, 1) := by decide +kernel
theorem dX0_countOf_17 : decode cX0_countOf 17 = .ok (.invokestatic 24, 3) := by decide +kernel
theorem dX0_countOf_20 : decode cX0_countOf 20 = .ok (.invokestatic 28, 3) := by decide +kernel
theorem dX0_countOf_23 : decode cX0_countOf 23 = .ok (.ifCond .le 7, 3) := by decide +kernel
theorem dX0_countOf_26 : decode cX0_countOf 26 = .ok (.iconst 1, 1) := by decide +kernel
theorem dX0_countOf_27 : decode cX0_countOf 27 = .ok (.goto 4, 3) := by decide +kernel
theorem dX0_countOf_30 : decode cX0_countOf 30 = .ok (.iconst 0, 1) := by decide +kernel
theorem dX0_countOf_31 : decode cX0_countOf 31 = .ok (.iadd, 1) := by decide +kernel
theorem dX0_countOf_32 : decode cX0_countOf 32 = .ok (.istore_n 2, 1) := by decide +kernel
theorem dX0_countOf_33 : decode cX0_countOf 33 = .ok (.iinc 3 1, 3) := by decide +kernel
theorem dX0_countOf_36 : decode cX0_countOf 36 = .ok (.goto (-32), 3) := by decide +kernel
theorem dX0_countOf_39 : decode cX0_countOf 39 = .ok (.iload_n 2, 1) := by decide +kernel
theorem dX0_countOf_40 : decode cX0_countOf 40 = .ok (.ireturn, 1) := by decide +kernel
theorem dX0_countAll_0 : decode cX0_countAll 0 = .ok (.iconst 0, 1) := by decide +kernel
theorem dX0_countAll_1 : decode cX0_countAll 1 = .ok (.istore_n 1, 1) := by decide +kernel
theorem dX0_countAll_2 : decode cX0_countAll 2 = .ok (.iconst 0, 1) := by decide +kernel
theorem dX0_countAll_3 : decode cX0_countAll 3 = .ok (.istore_n 2, 1) := by decide +kernel
theorem dX0_countAll_4 : decode cX0_countAll 4 = .ok (.iload_n 2, 1) := by decide +kernel
theorem dX0_countAll_5 : decode cX0_countAll 5 = .ok (.bipush 6, 2) := by decide +kernel
theorem dX0_countAll_7 : decode cX0_countAll 7 = .ok (.if_icmp .ge 17, 3) := by decide +kernel
theorem dX0_countAll_10 : decode cX0_countAll 10 = .ok (.iload_n 1, 1) := by decide +kernel
theorem dX0_countAll_11 : decode cX0_countAll 11 = .ok (.aload_n 0, 1) := by decide +kernel
theorem dX0_countAll_12 : decode cX0_countAll 12 = .ok (.iload_n 2, 1) := by decide +kernel
theorem dX0_countAll_13 : decode cX0_countAll 13 = .ok (.invokevirtual 40, 3) := by decide +kernel
theorem dX0_countAll_16 : decode cX0_countAll 16 = .ok (.iadd, 1) := by decide +kernel
theorem dX0_countAll_17 : decode cX0_countAll 17 = .ok (.istore_n 1, 1) := by decide +kernel
theorem dX0_countAll_18 : decode cX0_countAll 18 = .ok (.iinc 2 1, 3) := by decide +kernel
theorem dX0_countAll_21 : decode cX0_countAll 21 = .ok (.goto (-17), 3) := by decide +kernel
theorem dX0_countAll_24 : decode cX0_countAll 24 = .ok (.iload_n 1, 1) := by decide +kernel
theorem dX0_countAll_25 : decode cX0_countAll 25 = .ok (.ireturn, 1) := by decide +kernel
theorem dX0_offeredBy_0 : decode cX0_offeredBy 0 = .ok (.iconst 0, 1) := by decide +kernel
theorem dX0_offeredBy_1 : decode cX0_offeredBy 1 = .ok (.istore_n 2, 1) := by decide +kernel
theorem dX0_offeredBy_2 : decode cX0_offeredBy 2 = .ok (.iconst 0, 1) := by decide +kernel
theorem dX0_offeredBy_3 : decode cX0_offeredBy 3 = .ok (.istore_n 3, 1) := by decide +kernel
theorem dX0_offeredBy_4 : decode cX0_offeredBy 4 = .ok (.iload_n 3, 1) := by decide +kernel
theorem dX0_offeredBy_5 : decode cX0_offeredBy 5 = .ok (.bipush 48, 2) := by decide +kernel
theorem dX0_offeredBy_7 : decode cX0_offeredBy 7 = .ok (.if_icmp .ge 24, 3) := by decide +kernel
theorem dX0_offeredBy_10 : decode cX0_offeredBy 10 = .ok (.iload_n 2, 1) := by decide +kernel
theorem dX0_offeredBy_11 : decode cX0_offeredBy 11 = .ok (.aload_n 0, 1) := by decide +kernel
theorem dX0_offeredBy_12 : decode cX0_offeredBy 12 = .ok (.getfield 15, 3) := by decide +kernel
theorem dX0_offeredBy_15 : decode cX0_offeredBy 15 = .ok (.iload_n 1, 1) := by decide +kernel
theorem dX0_offeredBy_16 : decode cX0_offeredBy 16 = .ok (.iload_n 3, 1) := by decide +kernel
theorem dX0_offeredBy_17 : decode cX0_offeredBy 17 = .ok (.invokestatic 24, 3) := by decide +kernel
theorem dX0_offeredBy_20 : decode cX0_offeredBy 20 = .ok (.invokestatic 28, 3) := by decide +kernel
theorem dX0_offeredBy_23 : decode cX0_offeredBy 23 = .ok (.iadd, 1) := by decide +kernel
theorem dX0_offeredBy_24 : decode cX0_offeredBy 24 = .ok (.istore_n 2, 1) := by decide +kernel
theorem dX0_offeredBy_25 : decode cX0_offeredBy 25 = .ok (.iinc 3 1, 3) := by decide +kernel
theorem dX0_offeredBy_28 : decode cX0_offeredBy 28 = .ok (.goto (-24), 3) := by decide +kernel
theorem dX0_offeredBy_31 : decode cX0_offeredBy 31 = .ok (.iload_n 2, 1) := by decide +kernel
theorem dX0_offeredBy_32 : decode cX0_offeredBy 32 = .ok (.ireturn, 1) := by decide +kernel
theorem dX0_highest_0 : decode cX0_highest 0 = .ok (.iconst 0, 1) := by decide +kernel
theorem dX0_highest_1 : decode cX0_highest 1 = .ok (.istore 4, 2) := by decide +kernel
theorem dX0_highest_3 : decode cX0_highest 3 = .ok (.iconst 0, 1) := by decide +kernel
theorem dX0_highest_4 : decode cX0_highest 4 = .ok (.istore 5, 2) := by decide +kernel
theorem dX0_highest_6 : decode cX0_highest 6 = .ok (.iload 5, 2) := by decide +kernel
theorem dX0_highest_8 : decode cX0_highest 8 = .ok (.bipush 6, 2) := by decide +kernel
theorem dX0_highest_10 : decode cX0_highest 10 = .ok (.if_icmp .ge 75, 3) := by decide +kernel
theorem dX0_highest_13 : decode cX0_highest 13 = .ok (.aload_n 0, 1) := by decide +kernel
theorem dX0_highest_14 : decode cX0_highest 14 = .ok (.getfield 15, 3) := by decide +kernel
theorem dX0_highest_17 : decode cX0_highest 17 = .ok (.iload 5, 2) := by decide +kernel
theorem dX0_highest_19 : decode cX0_highest 19 = .ok (.iload_n 1, 1) := by decide +kernel
theorem dX0_highest_20 : decode cX0_highest 20 = .ok (.invokestatic 24, 3) := by decide +kernel
theorem dX0_highest_23 : decode cX0_highest 23 = .ok (.invokestatic 28, 3) := by decide +kernel
theorem dX0_highest_26 : decode cX0_highest 26 = .ok (.istore 6, 2) := by decide +kernel
theorem dX0_highest_28 : decode cX0_highest 28 = .ok (.iload 5, 2) := by decide +kernel
theorem dX0_highest_30 : decode cX0_highest 30 = .ok (.iload_n 3, 1) := by decide +kernel
theorem dX0_highest_31 : decode cX0_highest 31 = .ok (.if_icmp .eq 24, 3) := by decide +kernel
theorem dX0_highest_34 : decode cX0_highest 34 = .ok (.aload_n 0, 1) := by decide +kernel
theorem dX0_highest_35 : decode cX0_highest 35 = .ok (.getfield 9, 3) := by decide +kernel
theorem dX0_highest_38 : decode cX0_highest 38 = .ok (.iload 5, 2) := by decide +kernel
theorem dX0_highest_40 : decode cX0_highest 40 = .ok (.iload_n 1, 1) := by decide +kernel
theorem dX0_highest_41 : decode cX0_highest 41 = .ok (.invokestatic 24, 3) := by decide +kernel
theorem dX0_highest_44 : decode cX0_highest 44 = .ok (.invokestatic 28, 3) := by decide +kernel
theorem dX0_highest_47 : decode cX0_highest 47 = .ok (.iload_n 2, 1) := by decide +kernel
theorem dX0_highest_48 : decode cX0_highest 48 = .ok (.if_icmp .gt 7, 3) := by decide +kernel
theorem dX0_highest_51 : decode cX0_highest 51 = .ok (.iconst 1, 1) := by decide +kernel
theorem dX0_highest_52 : decode cX0_highest 52 = .ok (.goto 4, 3) := by decide +kernel
theorem dX0_highest_55 : decode cX0_highest 55 = .ok (.iconst 0, 1) := by decide +kernel
theorem dX0_highest_56 : decode cX0_highest 56 = .ok (.istore 7, 2) := by decide +kernel
theorem dX0_highest_58 : decode cX0_highest 58 = .ok (.iload 7, 2) := by decide +kernel
theorem dX0_highest_60 : decode cX0_highest 60 = .ok (.ifCond .eq 15, 3) := by decide +kernel
theorem dX0_highest_63 : decode cX0_highest 63 = .ok (.iload 6, 2) := by decide +kernel
theorem dX0_highest_65 : decode cX0_highest 65 = .ok (.iload 4, 2) := by decide +kernel
theorem dX0_highest_67 : decode cX0_highest 67 = .ok (.if_icmp .le 8, 3) := by decide +kernel
theorem dX0_highest_70 : decode cX0_highest 70 = .ok (.iload 6, 2) := by decide +kernel
theorem dX0_highest_72 : decode cX0_highest 72 = .ok (.goto 5, 3) := by decide +kernel
theorem dX0_highest_75 : decode cX0_highest 75 = .ok (.iload 4, 2) := by decide +kernel
theorem dX0_highest_77 : decode cX0_highest 77 = .ok (.istore 4, 2) := by decide +kernel
theorem dX0_highest_79 : decode cX0_highest 79 = .ok (.iinc 5 1, 3) := by decide +kernel
theorem dX0_highest_82 : decode cX0_highest 82 = .ok (.goto (-76), 3) := by decide +kernel
theorem dX0_highest_85 : decode cX0_highest 85 = .ok (.iload 4, 2) := by decide +kernel
theorem dX0_highest_87 : decode cX0_highest 87 = .ok (.ireturn, 1) := by decide +kernel
theorem dX0_winner_0 : decode cX0_winner 0 = .ok (.bipush (-5), 2) := by decide +kernel
theorem dX0_winner_2 : decode cX0_winner 2 = .ok (.istore_n 3, 1) := by decide +kernel
theorem dX0_winner_3 : decode cX0_winner 3 = .ok (.iconst 0, 1) := by decide +kernel
theorem dX0_winner_4 : decode cX0_winner 4 = .ok (.istore 4, 2) := by decide +kernel
theorem dX0_winner_6 : decode cX0_winner 6 = .ok (.iconst 0, 1) := by decide +kernel
theorem dX0_winner_7 : decode cX0_winner 7 = .ok (.istore 5, 2) := by decide +kernel
theorem dX0_winner_9 : decode cX0_winner 9 = .ok (.iload 5, 2) := by decide +kernel
theorem dX0_winner_11 : decode cX0_winner 11 = .ok (.bipush 6, 2) := by decide +kernel
theorem dX0_winner_13 : decode cX0_winner 13 = .ok (.if_icmp .ge 55, 3) := by decide +kernel
theorem dX0_winner_16 : decode cX0_winner 16 = .ok (.aload_n 0, 1) := by decide +kernel
theorem dX0_winner_17 : decode cX0_winner 17 = .ok (.getfield 15, 3) := by decide +kernel
theorem dX0_winner_20 : decode cX0_winner 20 = .ok (.iload 5, 2) := by decide +kernel
theorem dX0_winner_22 : decode cX0_winner 22 = .ok (.iload_n 1, 1) := by decide +kernel
theorem dX0_winner_23 : decode cX0_winner 23 = .ok (.invokestatic 24, 3) := by decide +kernel
theorem dX0_winner_26 : decode cX0_winner 26 = .ok (.invokestatic 28, 3) := by decide +kernel
theorem dX0_winner_29 : decode cX0_winner 29 = .ok (.istore 6, 2) := by decide +kernel
theorem dX0_winner_31 : decode cX0_winner 31 = .ok (.iload 6, 2) := by decide +kernel
theorem dX0_winner_33 : decode cX0_winner 33 = .ok (.iload 4, 2) := by decide +kernel
theorem dX0_winner_35 : decode cX0_winner 35 = .ok (.if_icmp .le 27, 3) := by decide +kernel
theorem dX0_winner_38 : decode cX0_winner 38 = .ok (.aload_n 0, 1) := by decide +kernel
theorem dX0_winner_39 : decode cX0_winner 39 = .ok (.getfield 9, 3) := by decide +kernel
theorem dX0_winner_42 : decode cX0_winner 42 = .ok (.iload 5, 2) := by decide +kernel
theorem dX0_winner_44 : decode cX0_winner 44 = .ok (.iload_n 1, 1) := by decide +kernel
theorem dX0_winner_45 : decode cX0_winner 45 = .ok (.invokestatic 24, 3) := by decide +kernel
theorem dX0_winner_48 : decode cX0_winner 48 = .ok (.invokestatic 28, 3) := by decide +kernel
theorem dX0_winner_51 : decode cX0_winner 51 = .ok (.iload_n 2, 1) := by decide +kernel
theorem dX0_winner_52 : decode cX0_winner 52 = .ok (.if_icmp .gt 10, 3) := by decide +kernel
theorem dX0_winner_55 : decode cX0_winner 55 = .ok (.iload 5, 2) := by decide +kernel
theorem dX0_winner_57 : decode cX0_winner 57 = .ok (.istore_n 3, 1) := by decide +kernel
theorem dX0_winner_58 : decode cX0_winner 58 = .ok (.iload 6, 2) := by decide +kernel
theorem dX0_winner_60 : decode cX0_winner 60 = .ok (.istore 4, 2) := by decide +kernel
theorem dX0_winner_62 : decode cX0_winner 62 = .ok (.iinc 5 1, 3) := by decide +kernel
theorem dX0_winner_65 : decode cX0_winner 65 = .ok (.goto (-56), 3) := by decide +kernel
theorem dX0_winner_68 : decode cX0_winner 68 = .ok (.iload_n 3, 1) := by decide +kernel
theorem dX0_winner_69 : decode cX0_winner 69 = .ok (.ireturn, 1) := by decide +kernel
theorem dX1_init_0 : decode cX1_init 0 = .ok (.aload_n 0, 1) := by decide +kernel
theorem dX1_init_1 : decode cX1_init 1 = .ok (.invokespecial 3, 3) := by decide +kernel
theorem dX1_init_4 : decode cX1_init 4 = .ok (.aload_n 0, 1) := by decide +kernel
theorem dX1_init_5 : decode cX1_init 5 = .ok (.bipush 6, 2) := by decide +kernel
theorem dX1_init_7 : decode cX1_init 7 = .ok (.newarray .int, 2) := by decide +kernel
theorem dX1_init_9 : decode cX1_init 9 = .ok (.putfield 9, 3) := by decide +kernel
theorem dX1_init_12 : decode cX1_init 12 = .ok (.aload_n 0, 1) := by decide +kernel
theorem dX1_init_13 : decode cX1_init 13 = .ok (.bipush 6, 2) := by decide +kernel
theorem dX1_init_15 : decode cX1_init 15 = .ok (.newarray .int, 2) := by decide +kernel
theorem dX1_init_17 : decode cX1_init 17 = .ok (.putfield 15, 3) := by decide +kernel
theorem dX1_init_20 : decode cX1_init 20 = .ok (.aload_n 0, 1) := by decide +kernel
theorem dX1_init_21 : decode cX1_init 21 = .ok (.bipush 6, 2) := by decide +kernel
theorem dX1_init_23 : decode cX1_init 23 = .ok (.newarray .int, 2) := by decide +kernel
theorem dX1_init_25 : decode cX1_init 25 = .ok (.putfield 18, 3) := by decide +kernel
theorem dX1_init_28 : decode cX1_init 28 = .ok (.aload_n 0, 1) := by decide +kernel
theorem dX1_init_29 : decode cX1_init 29 = .ok (.bipush 6, 2) := by decide +kernel
theorem dX1_init_31 : decode cX1_init 31 = .ok (.newarray .int, 2) := by decide +kernel
theorem dX1_init_33 : decode cX1_init 33 = .ok (.putfield 21, 3) := by decide +kernel
theorem dX1_init_36 : decode cX1_init 36 = .ok (.aload_n 0, 1) := by decide +kernel
theorem dX1_init_37 : decode cX1_init 37 = .ok (.getfield 9, 3) := by decide +kernel
theorem dX1_init_40 : decode cX1_init 40 = .ok (.bipush 100, 2) := by decide +kernel
theorem dX1_init_42 : decode cX1_init 42 = .ok (.invokestatic 24, 3) := by decide +kernel
theorem dX1_init_45 : decode cX1_init 45 = .ok (.return_, 1) := by decide +kernel
theorem dX1_copy_0 : decode cX1_copy 0 = .ok (.aload_n 1, 1) := by decide +kernel
theorem dX1_copy_1 : decode cX1_copy 1 = .ok (.getfield 9, 3) := by decide +kernel
theorem dX1_copy_4 : decode cX1_copy 4 = .ok (.aload_n 0, 1) := by decide +kernel
theorem dX1_copy_5 : decode cX1_copy 5 = .ok (.getfield 9, 3) := by decide +kernel
theorem dX1_copy_8 : decode cX1_copy 8 = .ok (.invokestatic 30, 3) := by decide +kernel
theorem dX1_copy_11 : decode cX1_copy 11 = .ok (.aload_n 1, 1) := by decide +kernel
theorem dX1_copy_12 : decode cX1_copy 12 = .ok (.getfield 15, 3) := by decide +kernel
theorem dX1_copy_15 : decode cX1_copy 15 = .ok (.aload_n 0, 1) := by decide +kernel
theorem dX1_copy_16 : decode cX1_copy 16 = .ok (.getfield 15, 3) := by decide +kernel
theorem dX1_copy_19 : decode cX1_copy 19 = .ok (.invokestatic 30, 3) := by decide +kernel
theorem dX1_copy_22 : decode cX1_copy 22 = .ok (.aload_n 1, 1) := by decide +kernel
theorem dX1_copy_23 : decode cX1_copy 23 = .ok (.getfield 18, 3) := by decide +kernel
theorem dX1_copy_26 : decode cX1_copy 26 = .ok (.aload_n 0, 1) := by decide +kernel
theorem dX1_copy_27 : decode cX1_copy 27 = .ok (.getfield 18, 3) := by decide +kernel
theorem dX1_copy_30 : decode cX1_copy 30 = .ok (.invokestatic 30, 3) := by decide +kernel
theorem dX1_copy_33 : decode cX1_copy 33 = .ok (.aload_n 1, 1) := by decide +kernel
theorem dX1_copy_34 : decode cX1_copy 34 = .ok (.getfield 21, 3) := by decide +kernel
theorem dX1_copy_37 : decode cX1_copy 37 = .ok (.aload_n 0, 1) := by decide +kernel
theorem dX1_copy_38 : decode cX1_copy 38 = .ok (.getfield 21, 3) := by decide +kernel
theorem dX1_copy_41 : decode cX1_copy 41 = .ok (.invokestatic 30, 3) := by decide +kernel
theorem dX1_copy_44 : decode cX1_copy 44 = .ok (.return_, 1) := by decide +kernel
theorem dX1_payYard_0 : decode cX1_payYard 0 = .ok (.aload_n 0, 1) := by decide +kernel
theorem dX1_payYard_1 : decode cX1_payYard 1 = .ok (.getfield 9, 3) := by decide +kernel
theorem dX1_payYard_4 : decode cX1_payYard 4 = .ok (.iload_n 1, 1) := by decide +kernel
theorem dX1_payYard_5 : decode cX1_payYard 5 = .ok (.iload_n 2, 1) := by decide +kernel
theorem dX1_payYard_6 : decode cX1_payYard 6 = .ok (.ineg, 1) := by decide +kernel
theorem dX1_payYard_7 : decode cX1_payYard 7 = .ok (.invokestatic 34, 3) := by decide +kernel
theorem dX1_payYard_10 : decode cX1_payYard 10 = .ok (.aload_n 0, 1) := by decide +kernel
theorem dX1_payYard_11 : decode cX1_payYard 11 = .ok (.getfield 18, 3) := by decide +kernel
theorem dX1_payYard_14 : decode cX1_payYard 14 = .ok (.iload_n 1, 1) := by decide +kernel
theorem dX1_payYard_15 : decode cX1_payYard 15 = .ok (.iload_n 2, 1) := by decide +kernel
theorem dX1_payYard_16 : decode cX1_payYard 16 = .ok (.invokestatic 34, 3) := by decide +kernel
theorem dX1_payYard_19 : decode cX1_payYard 19 = .ok (.return_, 1) := by decide +kernel
theorem dX1_getByTrade_0 : decode cX1_getByTrade 0 = .ok (.aload_n 0, 1) := by decide +kernel
theorem dX1_getByTrade_1 : decode cX1_getByTrade 1 = .ok (.getfield 9, 3) := by decide +kernel
theorem dX1_getByTrade_4 : decode cX1_getByTrade 4 = .ok (.iload_n 1, 1) := by decide +kernel
theorem dX1_getByTrade_5 : decode cX1_getByTrade 5 = .ok (.iload_n 2, 1) := by decide +kernel
theorem dX1_getByTrade_6 : decode cX1_getByTrade 6 = .ok (.invokestatic 34, 3) := by decide +kernel
theorem dX1_getByTrade_9 : decode cX1_getByTrade 9 = .ok (.aload_n 0, 1) := by decide +kernel
theorem dX1_getByTrade_10 : decode cX1_getByTrade 10 = .ok (.getfield 21, 3) := by decide +kernel
theorem dX1_getByTrade_13 : decode cX1_getByTrade 13 = .ok (.iload_n 1, 1) := by decide +kernel
theorem dX1_getByTrade_14 : decode cX1_getByTrade 14 = .ok (.iload_n 2, 1) := by decide +kernel
theorem dX1_getByTrade_15 : decode cX1_getByTrade 15 = .ok (.invokestatic 34, 3) := by decide +kernel
theorem dX1_getByTrade_18 : decode cX1_getByTrade 18 = .ok (.return_, 1) := by decide +kernel
theorem dX2_init_0 : decode cX2_init 0 = .ok (.aload_n 0, 1) := by decide +kernel
theorem dX2_init_1 : decode cX2_init 1 = .ok (.invokespecial 1, 3) := by decide +kernel
theorem dX2_init_4 : decode cX2_init 4 = .ok (.aload_n 0, 1) := by decide +kernel
theorem dX2_init_5 : decode cX2_init 5 = .ok (.iconst 4, 1) := by decide +kernel
theorem dX2_init_6 : decode cX2_init 6 = .ok (.anewarray 9, 3) := by decide +kernel
theorem dX2_init_9 : decode cX2_init 9 = .ok (.putfield 11, 3) := by decide +kernel
theorem dX2_init_12 : decode cX2_init 12 = .ok (.aload_n 0, 1) := by decide +kernel
theorem dX2_init_13 : decode cX2_init 13 = .ok (.iconst 0, 1) := by decide +kernel
theorem dX2_init_14 : decode cX2_init 14 = .ok (.putfield 15, 3) := by decide +kernel
theorem dX2_init_17 : decode cX2_init 17 = .ok (.iconst 0, 1) := by decide +kernel
theorem dX2_init_18 : decode cX2_init 18 = .ok (.istore_n 1, 1) := by decide +kernel
theorem dX2_init_19 : decode cX2_init 19 = .ok (.iload_n 1, 1) := by decide +kernel
theorem dX2_init_20 : decode cX2_init 20 = .ok (.aload_n 0, 1) := by decide +kernel
theorem dX2_init_21 : decode cX2_init 21 = .ok (.getfield 11, 3) := by decide +kernel
theorem dX2_init_24 : decode cX2_init 24 = .ok (.arraylength, 1) := by decide +kernel
theorem dX2_init_25 : decode cX2_init 25 = .ok (.if_icmp .ge 22, 3) := by decide +kernel
theorem dX2_init_28 : decode cX2_init 28 = .ok (.aload_n 0, 1) := by decide +kernel
theorem dX2_init_29 : decode cX2_init 29 = .ok (.getfield 11, 3) := by decide +kernel
theorem dX2_init_32 : decode cX2_init 32 = .ok (.iload_n 1, 1) := by decide +kernel
theorem dX2_init_33 : decode cX2_init 33 = .ok (.new 9, 3) := by decide +kernel
theorem dX2_init_36 : decode cX2_init 36 = .ok (.dup, 1) := by decide +kernel
theorem dX2_init_37 : decode cX2_init 37 = .ok (.invokespecial 19, 3) := by decide +kernel
theorem dX2_init_40 : decode cX2_init 40 = .ok (.aastore, 1) := by decide +kernel
theorem dX2_init_41 : decode cX2_init 41 = .ok (.iinc 1 1, 3) := by decide +kernel
theorem dX2_init_44 : decode cX2_init 44 = .ok (.goto (-25), 3) := by decide +kernel
theorem dX2_init_47 : decode cX2_init 47 = .ok (.return_, 1) := by decide +kernel
theorem dX2_size_0 : decode cX2_size 0 = .ok (.aload_n 0, 1) := by decide +kernel
theorem dX2_size_1 : decode cX2_size 1 = .ok (.getfield 15, 3) := by decide +kernel
theorem dX2_size_4 : decode cX2_size 4 = .ok (.ireturn, 1) := by decide +kernel
theorem dX2_store_0 : decode cX2_store 0 = .ok (.aload_n 0, 1) := by decide +kernel
theorem dX2_store_1 : decode cX2_store 1 = .ok (.getfield 15, 3) := by decide +kernel
theorem dX2_store_4 : decode cX2_store 4 = .ok (.aload_n 0, 1) := by decide +kernel
theorem dX2_store_5 : decode cX2_store 5 = .ok (.getfield 11, 3) := by decide +kernel
theorem dX2_store_8 : decode cX2_store 8 = .ok (.arraylength, 1) := by decide +kernel
theorem dX2_store_9 : decode cX2_store 9 = .ok (.if_icmp .lt 7, 3) := by decide +kernel
theorem dX2_store_12 : decode cX2_store 12 = .ok (.aload_n 0, 1) := by decide +kernel
theorem dX2_store_13 : decode cX2_store 13 = .ok (.invokevirtual 20, 3) := by decide +kernel
theorem dX2_store_16 : decode cX2_store 16 = .ok (.aload_n 0, 1) := by decide +kernel
theorem dX2_store_17 : decode cX2_store 17 = .ok (.aload_n 0, 1) := by decide +kernel
theorem dX2_store_18 : decode cX2_store 18 = .ok (.getfield 15, 3) := by decide +kernel
theorem dX2_store_21 : decode cX2_store 21 = .ok (.invokevirtual 23, 3) := by decide +kernel
theorem dX2_store_24 : decode cX2_store 24 = .ok (.astore_n 2, 1) := by decide +kernel
theorem dX2_store_25 : decode cX2_store 25 = .ok (.aload_n 2, 1) := by decide +kernel
theorem dX2_store_26 : decode cX2_store 26 = .ok (.ifnull 18, 3) := by decide +kernel
theorem dX2_store_29 : decode cX2_store 29 = .ok (.aload_n 2, 1) := by decide +kernel
theorem dX2_store_30 : decode cX2_store 30 = .ok (.aload_n 1, 1) := by decide +kernel
theorem dX2_store_31 : decode cX2_store 31 = .ok (.invokevirtual 27, 3) := by decide +kernel
theorem dX2_store_34 : decode cX2_store 34 = .ok (.aload_n 0, 1) := by decide +kernel
theorem dX2_store_35 : decode cX2_store 35 = .ok (.dup, 1) := by decide +kernel
theorem dX2_store_36 : decode cX2_store 36 = .ok (.getfield 15, 3) := by decide +kernel
theorem dX2_store_39 : decode cX2_store 39 = .ok (.iconst 1, 1) := by decide +kernel
theorem dX2_store_40 : decode cX2_store 40 = .ok (.iadd, 1) := by decide +kernel
theorem dX2_store_41 : decode cX2_store 41 = .ok (.putfield 15, 3) := by decide +kernel
theorem dX2_store_44 : decode cX2_store 44 = .ok (.return_, 1) := by decide +kernel
theorem dX2_takeLatest_0 : decode cX2_takeLatest 0 = .ok (.aload_n 0, 1) := by decide +kernel
theorem dX2_takeLatest_1 : decode cX2_takeLatest 1 = .ok (.aload_n 0, 1) := by decide +kernel
theorem dX2_takeLatest_2 : decode cX2_takeLatest 2 = .ok (.getfield 15, 3) := by decide +kernel
theorem dX2_takeLatest_5 : decode cX2_takeLatest 5 = .ok (.iconst 1, 1) := by decide +kernel
theorem dX2_takeLatest_6 : decode cX2_takeLatest 6 = .ok (.isub, 1) := by decide +kernel
theorem dX2_takeLatest_7 : decode cX2_takeLatest 7 = .ok (.invokevirtual 23, 3) := by decide +kernel
theorem dX2_takeLatest_10 : decode cX2_takeLatest 10 = .ok (.astore_n 2, 1) := by decide +kernel
theorem dX2_takeLatest_11 : decode cX2_takeLatest 11 = .ok (.aload_n 2, 1) := by decide +kernel
theorem dX2_takeLatest_12 : decode cX2_takeLatest 12 = .ok (.ifnonnull 5, 3) := by decide +kernel
theorem dX2_takeLatest_15 : decode cX2_takeLatest 15 = .ok (.iconst 0, 1) := by decide +kernel
theorem dX2_takeLatest_16 : decode cX2_takeLatest 16 = .ok (.ireturn, 1) := by decide +kernel
theorem dX2_takeLatest_17 : decode cX2_takeLatest 17 = .ok (.aload_n 1, 1) := by decide +kernel
theorem dX2_takeLatest_18 : decode cX2_takeLatest 18 = .ok (.aload_n 2, 1) := by decide +kernel
theorem dX2_takeLatest_19 : decode cX2_takeLatest 19 = .ok (.invokevirtual 27, 3) := by decide +kernel
theorem dX2_takeLatest_22 : decode cX2_takeLatest 22 = .ok (.aload_n 0, 1) := by decide +kernel
theorem dX2_takeLatest_23 : decode cX2_takeLatest 23 = .ok (.dup, 1) := by decide +kernel
theorem dX2_takeLatest_24 : decode cX2_takeLatest 24 = .ok (.getfield 15, 3) := by decide +kernel
theorem dX2_takeLatest_27 : decode cX2_takeLatest 27 = .ok (.iconst 1, 1) := by decide +kernel
theorem dX2_takeLatest_28 : decode cX2_takeLatest 28 = .ok (.isub, 1) := by decide +kernel
theorem dX2_takeLatest_29 : decode cX2_takeLatest 29 = .ok (.putfield 15, 3) := by decide +kernel
theorem dX2_takeLatest_32 : decode cX2_takeLatest 32 = .ok (.iconst 1, 1) := by decide +kernel
theorem dX2_takeLatest_33 : decode cX2_takeLatest 33 = .ok (.ireturn, 1) := by decide +kernel
theorem dX2_stateAt_0 : decode cX2_stateAt 0 = .ok (.iload_n 1, 1) := by decide +kernel
theorem dX2_stateAt_1 : decode cX2_stateAt 1 = .ok (.ifCond .lt 21, 3) := by decide +kernel
theorem dX2_stateAt_4 : decode cX2_stateAt 4 = .ok (.iload_n 1, 1) := by decide +kernel
theorem dX2_stateAt_5 : decode cX2_stateAt 5 = .ok (.aload_n 0, 1) := by decide +kernel
theorem dX2_stateAt_6 : decode cX2_stateAt 6 = .ok (.getfield 11, 3) := by decide +kernel
theorem dX2_stateAt_9 : decode cX2_stateAt 9 = .ok (.arraylength, 1) := by decide +kernel
theorem dX2_stateAt_10 : decode cX2_stateAt 10 = .ok (.if_icmp .ge 12, 3) := by decide +kernel
theorem dX2_stateAt_13 : decode cX2_stateAt 13 = .ok (.aload_n 0, 1) := by decide +kernel
theorem dX2_stateAt_14 : decode cX2_stateAt 14 = .ok (.getfield 11, 3) := by decide +kernel
theorem dX2_stateAt_17 : decode cX2_stateAt 17 = .ok (.iload_n 1, 1) := by decide +kernel
theorem dX2_stateAt_18 : decode cX2_stateAt 18 = .ok (.aaload, 1) := by decide +kernel
theorem dX2_stateAt_19 : decode cX2_stateAt 19 = .ok (.goto 4, 3) := by decide +kernel
theorem dX2_stateAt_22 : decode cX2_stateAt 22 = .ok (.aconst_null, 1) := by decide +kernel
theorem dX2_stateAt_23 : decode cX2_stateAt 23 = .ok (.areturn, 1) := by decide +kernel
theorem dX2_dropOldest_0 : decode cX2_dropOldest 0 = .ok (.iconst 1, 1) := by decide +kernel
theorem dX2_dropOldest_1 : decode cX2_dropOldest 1 = .ok (.istore_n 1, 1) := by decide +kernel
theorem dX2_dropOldest_2 : decode cX2_dropOldest 2 = .ok (.iload_n 1, 1) := by decide +kernel
theorem dX2_dropOldest_3 : decode cX2_dropOldest 3 = .ok (.aload_n 0, 1) := by decide +kernel
theorem dX2_dropOldest_4 : decode cX2_dropOldest 4 = .ok (.getfield 11, 3) := by decide +kernel
theorem dX2_dropOldest_7 : decode cX2_dropOldest 7 = .ok (.arraylength, 1) := by decide +kernel
theorem dX2_dropOldest_8 : decode cX2_dropOldest 8 = .ok (.if_icmp .ge 39, 3) := by decide +kernel
theorem dX2_dropOldest_11 : decode cX2_dropOldest 11 = .ok (.aload_n 0, 1) := by decide +kernel
theorem dX2_dropOldest_12 : decode cX2_dropOldest 12 = .ok (.getfield 11, 3) := by decide +kernel
theorem dX2_dropOldest_15 : decode cX2_dropOldest 15 = .ok (.iload_n 1, 1) := by decide +kernel
theorem dX2_dropOldest_16 : decode cX2_dropOldest 16 = .ok (.iconst 1, 1) := by decide +kernel
theorem dX2_dropOldest_17 : decode cX2_dropOldest 17 = .ok (.isub, 1) := by decide +kernel
theorem dX2_dropOldest_18 : decode cX2_dropOldest 18 = .ok (.aaload, 1) := by decide +kernel
theorem dX2_dropOldest_19 : decode cX2_dropOldest 19 = .ok (.astore_n 2, 1) := by decide +kernel
theorem dX2_dropOldest_20 : decode cX2_dropOldest 20 = .ok (.aload_n 0, 1) := by decide +kernel
theorem dX2_dropOldest_21 : decode cX2_dropOldest 21 = .ok (.getfield 11, 3) := by decide +kernel
theorem dX2_dropOldest_24 : decode cX2_dropOldest 24 = .ok (.iload_n 1, 1) := by decide +kernel
theorem dX2_dropOldest_25 : decode cX2_dropOldest 25 = .ok (.iconst 1, 1) := by decide +kernel
theorem dX2_dropOldest_26 : decode cX2_dropOldest 26 = .ok (.isub, 1) := by decide +kernel
theorem dX2_dropOldest_27 : decode cX2_dropOldest 27 = .ok (.aload_n 0, 1) := by decide +kernel
theorem dX2_dropOldest_28 : decode cX2_dropOldest 28 = .ok (.getfield 11, 3) := by decide +kernel
theorem dX2_dropOldest_31 : decode cX2_dropOldest 31 = .ok (.iload_n 1, 1) := by decide +kernel
theorem dX2_dropOldest_32 : decode cX2_dropOldest 32 = .ok (.aaload, 1) := by decide +kernel
theorem dX2_dropOldest_33 : decode cX2_dropOldest 33 = .ok (.aastore, 1) := by decide +kernel
theorem dX2_dropOldest_34 : decode cX2_dropOldest 34 = .ok (.aload_n 0, 1) := by decide +kernel
theorem dX2_dropOldest_35 : decode cX2_dropOldest 35 = .ok (.getfield 11, 3) := by decide +kernel
theorem dX2_dropOldest_38 : decode cX2_dropOldest 38 = .ok (.iload_n 1, 1) := by decide +kernel
theorem dX2_dropOldest_39 : decode cX2_dropOldest 39 = .ok (.aload_n 2, 1) := by decide +kernel
theorem dX2_dropOldest_40 : decode cX2_dropOldest 40 = .ok (.aastore, 1) := by decide +kernel
theorem dX2_dropOldest_41 : decode cX2_dropOldest 41 = .ok (.iinc 1 1, 3) := by decide +kernel
theorem dX2_dropOldest_44 : decode cX2_dropOldest 44 = .ok (.goto (-42), 3) := by decide +kernel
theorem dX2_dropOldest_47 : decode cX2_dropOldest 47 = .ok (.aload_n 0, 1) := by decide +kernel
theorem dX2_dropOldest_48 : decode cX2_dropOldest 48 = .ok (.dup, 1) := by decide +kernel
theorem dX2_dropOldest_49 : decode cX2_dropOldest 49 = .ok (.getfield 15, 3) := by decide +kernel
theorem dX2_dropOldest_52 : decode cX2_dropOldest 52 = .ok (.iconst 1, 1) := by decide +kernel
theorem dX2_dropOldest_53 : decode cX2_dropOldest 53 = .ok (.isub, 1) := by decide +kernel
theorem dX2_dropOldest_54 : decode cX2_dropOldest 54 = .ok (.putfield 15, 3) := by decide +kernel
theorem dX2_dropOldest_57 : decode cX2_dropOldest 57 = .ok (.return_, 1) := by decide +kernel
theorem dX3_init_0 : decode cX3_init 0 = .ok (.aload_n 0, 1) := by decide +kernel
theorem dX3_init_1 : decode cX3_init 1 = .ok (.invokespecial 3, 3) := by decide +kernel
theorem dX3_init_4 : decode cX3_init 4 = .ok (.aload_n 0, 1) := by decide +kernel
theorem dX3_init_5 : decode cX3_init 5 = .ok (.bipush 80, 2) := by decide +kernel
theorem dX3_init_7 : decode cX3_init 7 = .ok (.newarray .char, 2) := by decide +kernel
theorem dX3_init_9 : decode cX3_init 9 = .ok (.putfield 11, 3) := by decide +kernel
theorem dX3_init_12 : decode cX3_init 12 = .ok (.aload_n 0, 1) := by decide +kernel
theorem dX3_init_13 : decode cX3_init 13 = .ok (.iconst 0, 1) := by decide +kernel
theorem dX3_init_14 : decode cX3_init 14 = .ok (.putfield 15, 3) := by decide +kernel
theorem dX3_init_17 : decode cX3_init 17 = .ok (.aload_n 0, 1) := by decide +kernel
theorem dX3_init_18 : decode cX3_init 18 = .ok (.iconst 0, 1) := by decide +kernel
theorem dX3_init_19 : decode cX3_init 19 = .ok (.putfield 19, 3) := by decide +kernel
theorem dX3_init_22 : decode cX3_init 22 = .ok (.aload_n 0, 1) := by decide +kernel
theorem dX3_init_23 : decode cX3_init 23 = .ok (.iconst 0, 1) := by decide +kernel
theorem dX3_init_24 : decode cX3_init 24 = .ok (.putfield 22, 3) := by decide +kernel
theorem dX3_init_27 : decode cX3_init 27 = .ok (.aload_n 0, 1) := by decide +kernel
theorem dX3_init_28 : decode cX3_init 28 = .ok (.iconst (-1), 1) := by decide +kernel
theorem dX3_init_29 : decode cX3_init 29 = .ok (.putfield 26, 3) := by decide +kernel
theorem dX3_init_32 : decode cX3_init 32 = .ok (.aload_n 0, 1) := by decide +kernel
theorem dX3_init_33 : decode cX3_init 33 = .ok (.iconst 0, 1) := by decide +kernel
theorem dX3_init_34 : decode cX3_init 34 = .ok (.putfield 29, 3) := by decide +kernel
theorem dX3_init_37 : decode cX3_init 37 = .ok (.aload_n 0, 1) := by decide +kernel
theorem dX3_init_38 : decode cX3_init 38 = .ok (.iconst 0, 1) := by decide +kernel
theorem dX3_init_39 : decode cX3_init 39 = .ok (.putfield 32, 3) := by decide +kernel
theorem dX3_init_42 : decode cX3_init 42 = .ok (.aload_n 0, 1) := by decide +kernel
theorem dX3_init_43 : decode cX3_init 43 = .ok (.iconst 0, 1) := by decide +kernel
theorem dX3_init_44 : decode cX3_init 44 = .ok (.putfield 35, 3) := by decide +kernel
theorem dX3_init_47 : decode cX3_init 47 = .ok (.aload_n 0, 1) := by decide +kernel
theorem dX3_init_48 : decode cX3_init 48 = .ok (.iconst 0, 1) := by decide +kernel
theorem dX3_init_49 : decode cX3_init 49 = .ok (.putfield 38, 3) := by decide +kernel
theorem dX3_init_52 : decode cX3_init 52 = .ok (.aload_n 0, 1) := by decide +kernel
theorem dX3_init_53 : decode cX3_init 53 = .ok (.iconst 0, 1) := by decide +kernel
theorem dX3_init_54 : decode cX3_init 54 = .ok (.putfield 41, 3) := by decide +kernel
theorem dX3_init_57 : decode cX3_init 57 = .ok (.aload_n 0, 1) := by decide +kernel
theorem dX3_init_58 : decode cX3_init 58 = .ok (.iconst 0, 1) := by decide +kernel
theorem dX3_init_59 : decode cX3_init 59 = .ok (.putfield 44, 3) := by decide +kernel
theorem dX3_init_62 : decode cX3_init 62 = .ok (.return_, 1) := by decide +kernel
theorem dX3_length_0 : decode cX3_length 0 = .ok (.aload_n 0, 1) := by decide +kernel
theorem dX3_length_1 : decode cX3_length 1 = .ok (.getfield 15, 3) := by decide +kernel
theorem dX3_length_4 : decode cX3_length 4 = .ok (.ireturn, 1) := by decide +kernel
theorem dX3_check_0 : decode cX3_check 0 = .ok (.aload_n 0, 1) := by decide +kernel
theorem dX3_check_1 : decode cX3_check 1 = .ok (.invokevirtual 47, 3) := by decide +kernel
theorem dX3_check_4 : decode cX3_check 4 = .ok (.iconst 0, 1) := by decide +kernel
theorem dX3_check_5 : decode cX3_check 5 = .ok (.istore_n 1, 1) := by decide +kernel
theorem dX3_check_6 : decode cX3_check 6 = .ok (.iconst 0, 1) := by decide +kernel
theorem dX3_check_7 : decode cX3_check 7 = .ok (.istore_n 2, 1) := by decide +kernel
theorem dX3_check_8 : decode cX3_check 8 = .ok (.iload_n 2, 1) := by decide +kernel
theorem dX3_check_9 : decode cX3_check 9 = .ok (.bipush 80, 2) := by decide +kernel
theorem dX3_check_11 : decode cX3_check 11 = .ok (.if_icmp .gt 38, 3) := by decide +kernel
theorem dX3_check_14 : decode cX3_check 14 = .ok (.aload_n 0, 1) := by decide +kernel
theorem dX3_check_15 : decode cX3_check 15 = .ok (.getfield 22, 3) := by decide +kernel
theorem dX3_check_18 : decode cX3_check 18 = .ok (.ifCond .ne 31, 3) := by decide +kernel
theorem dX3_check_21 : decode cX3_check 21 = .ok (.iload_n 2, 1) := by decide +kernel
theorem dX3_check_22 : decode cX3_check 22 = .ok (.ifCond .eq 14, 3) := by decide +kernel
theorem dX3_check_25 : decode cX3_check 25 = .ok (.aload_n 0, 1) := by decide +kernel
theorem dX3_check_26 : decode cX3_check 26 = .ok (.getfield 19, 3) := by decide +kernel
theorem dX3_check_29 : decode cX3_check 29 = .ok (.aload_n 0, 1) := by decide +kernel
theorem dX3_check_30 : decode cX3_check 30 = .ok (.getfield 15, 3) := by decide +kernel
theorem dX3_check_33 : decode cX3_check 33 = .ok (.if_icmp .ge 16, 3) := by decide +kernel
theorem dX3_check_36 : decode cX3_check 36 = .ok (.aload_n 0, 1) := by decide +kernel
theorem dX3_check_37 : decode cX3_check 37 = .ok (.invokevirtual 50, 3) := by decide +kernel
theorem dX3_check_40 : decode cX3_check 40 = .ok (.iinc 1 1, 3) := by decide +kernel
theorem dX3_check_43 : decode cX3_check 43 = .ok (.iinc 2 1, 3) := by decide +kernel
theorem dX3_check_46 : decode cX3_check 46 = .ok (.goto (-38), 3) := by decide +kernel
theorem dX3_check_49 : decode cX3_check 49 = .ok (.aload_n 0, 1) := by decide +kernel
theorem dX3_check_50 : decode cX3_check 50 = .ok (.getfield 22, 3) := by decide +kernel
theorem dX3_check_53 : decode cX3_check 53 = .ok (.ifCond .eq 13, 3) := by decide +kernel
theorem dX3_check_56 : decode cX3_check 56 = .ok (.bipush (-100), 2) := by decide +kernel
theorem dX3_check_58 : decode cX3_check 58 = .ok (.aload_n 0, 1) := by decide +kernel
theorem dX3_check_59 : decode cX3_check 59 = .ok (.getfield 19, 3) := by decide +kernel
theorem dX3_check_62 : decode cX3_check 62 = .ok (.isub, 1) := by decide +kernel
theorem dX3_check_63 : decode cX3_check 63 = .ok (.goto 4, 3) := by decide +kernel
theorem dX3_check_66 : decode cX3_check 66 = .ok (.iload_n 1, 1) := by decide +kernel
theorem dX3_check_67 : decode cX3_check 67 = .ok (.ireturn, 1) := by decide +kernel
theorem dX3_rewind_0 : decode cX3_rewind 0 = .ok (.aload_n 0, 1) := by decide +kernel
theorem dX3_rewind_1 : decode cX3_rewind 1 = .ok (.iconst 0, 1) := by decide +kernel
theorem dX3_rewind_2 : decode cX3_rewind 2 = .ok (.putfield 19, 3) := by decide +kernel
theorem dX3_rewind_5 : decode cX3_rewind 5 = .ok (.aload_n 0, 1) := by decide +kernel
theorem dX3_rewind_6 : decode cX3_rewind 6 = .ok (.iconst 0, 1) := by decide +kernel
theorem dX3_rewind_7 : decode cX3_rewind 7 = .ok (.putfield 22, 3) := by decide +kernel
theorem dX3_rewind_10 : decode cX3_rewind 10 = .ok (.return_, 1) := by decide +kernel
theorem dX3_readNext_0 : decode cX3_readNext 0 = .ok (.aload_n 0, 1) := by decide +kernel
theorem dX3_readNext_1 : decode cX3_readNext 1 = .ok (.getfield 19, 3) := by decide +kernel
theorem dX3_readNext_4 : decode cX3_readNext 4 = .ok (.ifCond .le 9, 3) := by decide +kernel
theorem dX3_readNext_7 : decode cX3_readNext 7 = .ok (.aload_n 0, 1) := by decide +kernel
theorem dX3_readNext_8 : decode cX3_readNext 8 = .ok (.bipush 44, 2) := by decide +kernel
theorem dX3_readNext_10 : decode cX3_readNext 10 = .ok (.invokevirtual 53, 3) := by decide +kernel
theorem dX3_readNext_13 : decode cX3_readNext 13 = .ok (.aload_n 0, 1) := by decide +kernel
theorem dX3_readNext_14 : decode cX3_readNext 14 = .ok (.aload_n 0, 1) := by decide +kernel
theorem dX3_readNext_15 : decode cX3_readNext 15 = .ok (.invokevirtual 57, 3) := by decide +kernel
theorem dX3_readNext_18 : decode cX3_readNext 18 = .ok (.putfield 26, 3) := by decide +kernel
theorem dX3_readNext_21 : decode cX3_readNext 21 = .ok (.aload_n 0, 1) := by decide +kernel
theorem dX3_readNext_22 : decode cX3_readNext 22 = .ok (.getfield 26, 3) := by decide +kernel
theorem dX3_readNext_25 : decode cX3_readNext 25 = .ok (.tableswitch 95 98 101 #[31, 95, 75, 38], 31) := by decide +kernel
theorem dX3_readNext_56 : decode cX3_readNext 56 = .ok (.aload_n 0, 1) := by decide +kernel
theorem dX3_readNext_57 : decode cX3_readNext 57 = .ok (.invokevirtual 61, 3) := by decide +kernel
theorem dX3_readNext_60 : decode cX3_readNext 60 = .ok (.goto 66, 3) := by decide +kernel
theorem dX3_readNext_63 : decode cX3_readNext 63 = .ok (.aload_n 0, 1) := by decide +kernel
theorem dX3_readNext_64 : decode cX3_readNext 64 = .ok (.bipush 101, 2) := by decide +kernel
theorem dX3_readNext_66 : decode cX3_readNext 66 = .ok (.invokevirtual 53, 3) := by decide +kernel
theorem dX3_readNext_69 : decode cX3_readNext 69 = .ok (.aload_n 0, 1) := by decide +kernel
theorem dX3_readNext_70 : decode cX3_readNext 70 = .ok (.aload_n 0, 1) := by decide +kernel
theorem dX3_readNext_71 : decode cX3_readNext 71 = .ok (.iconst 0, 1) := by decide +kernel
theorem dX3_readNext_72 : decode cX3_readNext 72 = .ok (.bipush 15, 2) := by decide +kernel
theorem dX3_readNext_74 : decode cX3_readNext 74 = .ok (.invokevirtual 64, 3) := by decide +kernel
theorem dX3_readNext_77 : decode cX3_readNext 77 = .ok (.putfield 35, 3) := by decide +kernel
theorem dX3_readNext_80 : decode cX3_readNext 80 = .ok (.aload_n 0, 1) := by decide +kernel
theorem dX3_readNext_81 : decode cX3_readNext 81 = .ok (.bipush 58, 2) := by decide +kernel
theorem dX3_readNext_83 : decode cX3_readNext 83 = .ok (.invokevirtual 53, 3) := by decide +kernel
theorem dX3_readNext_86 : decode cX3_readNext 86 = .ok (.aload_n 0, 1) := by decide +kernel
theorem dX3_readNext_87 : decode cX3_readNext 87 = .ok (.aload_n 0, 1) := by decide +kernel
theorem dX3_readNext_88 : decode cX3_readNext 88 = .ok (.iconst 0, 1) := by decide +kernel
theorem dX3_readNext_89 : decode cX3_readNext 89 = .ok (.bipush 99, 2) := by decide +kernel
theorem dX3_readNext_91 : decode cX3_readNext 91 = .ok (.invokevirtual 64, 3) := by decide +kernel
theorem dX3_readNext_94 : decode cX3_readNext 94 = .ok (.putfield 44, 3) := by decide +kernel
theorem dX3_readNext_97 : decode cX3_readNext 97 = .ok (.goto 29, 3) := by decide +kernel
theorem dX3_readNext_100 : decode cX3_readNext 100 = .ok (.aload_n 0, 1) := by decide +kernel
theorem dX3_readNext_101 : decode cX3_readNext 101 = .ok (.bipush 100, 2) := by decide +kernel
theorem dX3_readNext_103 : decode cX3_readNext 103 = .ok (.invokevirtual 53, 3) := by decide +kernel
theorem dX3_readNext_106 : decode cX3_readNext 106 = .ok (.aload_n 0, 1) := by decide +kernel
theorem dX3_readNext_107 : decode cX3_readNext 107 = .ok (.aload_n 0, 1) := by decide +kernel
theorem dX3_readNext_108 : decode cX3_readNext 108 = .ok (.iconst 0, 1) := by decide +kernel
theorem dX3_readNext_109 : decode cX3_readNext 109 = .ok (.bipush 99, 2) := by decide +kernel
theorem dX3_readNext_111 : decode cX3_readNext 111 = .ok (.invokevirtual 64, 3) := by decide +kernel
theorem dX3_readNext_114 : decode cX3_readNext 114 = .ok (.putfield 44, 3) := by decide +kernel
theorem dX3_readNext_117 : decode cX3_readNext 117 = .ok (.goto 9, 3) := by decide +kernel
theorem dX3_readNext_120 : decode cX3_readNext 120 = .ok (.aload_n 0, 1) := by decide +kernel
theorem dX3_readNext_121 : decode cX3_readNext 121 = .ok (.bipush 110, 2) := by decide +kernel
theorem dX3_readNext_123 : decode cX3_readNext 123 = .ok (.invokevirtual 53, 3) := by decide +kernel
theorem dX3_readNext_126 : decode cX3_readNext 126 = .ok (.return_, 1) := by decide +kernel
theorem dX3_readBid_0 : decode cX3_readBid 0 = .ok (.aload_n 0, 1) := by decide +kernel
theorem dX3_readBid_1 : decode cX3_readBid 1 = .ok (.bipush 98, 2) := by decide +kernel
theorem dX3_readBid_3 : decode cX3_readBid 3 = .ok (.invokevirtual 53, 3) := by decide +kernel
theorem dX3_readBid_6 : decode cX3_readBid 6 = .ok (.aload_n 0, 1) := by decide +kernel
theorem dX3_readBid_7 : decode cX3_readBid 7 = .ok (.aload_n 0, 1) := by decide +kernel
theorem dX3_readBid_8 : decode cX3_readBid 8 = .ok (.iconst 0, 1) := by decide +kernel
theorem dX3_readBid_9 : decode cX3_readBid 9 = .ok (.iconst 5, 1) := by decide +kernel
theorem dX3_readBid_10 : decode cX3_readBid 10 = .ok (.invokevirtual 64, 3) := by decide +kernel
theorem dX3_readBid_13 : decode cX3_readBid 13 = .ok (.putfield 29, 3) := by decide +kernel
theorem dX3_readBid_16 : decode cX3_readBid 16 = .ok (.aload_n 0, 1) := by decide +kernel
theorem dX3_readBid_17 : decode cX3_readBid 17 = .ok (.bipush 99, 2) := by decide +kernel
theorem dX3_readBid_19 : decode cX3_readBid 19 = .ok (.invokevirtual 53, 3) := by decide +kernel
theorem dX3_readBid_22 : decode cX3_readBid 22 = .ok (.aload_n 0, 1) := by decide +kernel
theorem dX3_readBid_23 : decode cX3_readBid 23 = .ok (.aload_n 0, 1) := by decide +kernel
theorem dX3_readBid_24 : decode cX3_readBid 24 = .ok (.iconst 0, 1) := by decide +kernel
theorem dX3_readBid_25 : decode cX3_readBid 25 = .ok (.iconst 2, 1) := by decide +kernel
theorem dX3_readBid_26 : decode cX3_readBid 26 = .ok (.invokevirtual 64, 3) := by decide +kernel
theorem dX3_readBid_29 : decode cX3_readBid 29 = .ok (.putfield 32, 3) := by decide +kernel
theorem dX3_readBid_32 : decode cX3_readBid 32 = .ok (.aload_n 0, 1) := by decide +kernel
theorem dX3_readBid_33 : decode cX3_readBid 33 = .ok (.bipush 104, 2) := by decide +kernel
theorem dX3_readBid_35 : decode cX3_readBid 35 = .ok (.invokevirtual 53, 3) := by decide +kernel
theorem dX3_readBid_38 : decode cX3_readBid 38 = .ok (.aload_n 0, 1) := by decide +kernel
theorem dX3_readBid_39 : decode cX3_readBid 39 = .ok (.aload_n 0, 1) := by decide +kernel
theorem dX3_readBid_40 : decode cX3_readBid 40 = .ok (.iconst 0, 1) := by decide +kernel
theorem dX3_readBid_41 : decode cX3_readBid 41 = .ok (.bipush 15, 2) := by decide +kernel
theorem dX3_readBid_43 : decode cX3_readBid 43 = .ok (.invokevirtual 64, 3) := by decide +kernel
theorem dX3_readBid_46 : decode cX3_readBid 46 = .ok (.putfield 35, 3) := by decide +kernel
theorem dX3_readBid_49 : decode cX3_readBid 49 = .ok (.aload_n 0, 1) := by decide +kernel
theorem dX3_readBid_50 : decode cX3_readBid 50 = .ok (.bipush 119, 2) := by decide +kernel
theorem dX3_readBid_52 : decode cX3_readBid 52 = .ok (.invokevirtual 53, 3) := by decide +kernel
theorem dX3_readBid_55 : decode cX3_readBid 55 = .ok (.aload_n 0, 1) := by decide +kernel
theorem dX3_readBid_56 : decode cX3_readBid 56 = .ok (.aload_n 0, 1) := by decide +kernel
theorem dX3_readBid_57 : decode cX3_readBid 57 = .ok (.iconst 1, 1) := by decide +kernel
theorem dX3_readBid_58 : decode cX3_readBid 58 = .ok (.bipush 60, 2) := by decide +kernel
theorem dX3_readBid_60 : decode cX3_readBid 60 = .ok (.invokevirtual 64, 3) := by decide +kernel
theorem dX3_readBid_63 : decode cX3_readBid 63 = .ok (.putfield 38, 3) := by decide +kernel
theorem dX3_readBid_66 : decode cX3_readBid 66 = .ok (.aload_n 0, 1) := by decide +kernel
theorem dX3_readBid_67 : decode cX3_readBid 67 = .ok (.bipush 61, 2) := by decide +kernel
theorem dX3_readBid_69 : decode cX3_readBid 69 = .ok (.invokevirtual 53, 3) := by decide +kernel
theorem dX3_readBid_72 : decode cX3_readBid 72 = .ok (.aload_n 0, 1) := by decide +kernel
theorem dX3_readBid_73 : decode cX3_readBid 73 = .ok (.aload_n 0, 1) := by decide +kernel
theorem dX3_readBid_74 : decode cX3_readBid 74 = .ok (.iconst 1, 1) := by decide +kernel
theorem dX3_readBid_75 : decode cX3_readBid 75 = .ok (.sipush 999, 3) := by decide +kernel
theorem dX3_readBid_78 : decode cX3_readBid 78 = .ok (.invokevirtual 64, 3) := by decide +kernel
theorem dX3_readBid_81 : decode cX3_readBid 81 = .ok (.putfield 41, 3) := by decide +kernel
theorem dX3_readBid_84 : decode cX3_readBid 84 = .ok (.return_, 1) := by decide +kernel
theorem dX3_sign_0 : decode cX3_sign 0 = .ok (.aload_n 0, 1) := by decide +kernel
theorem dX3_sign_1 : decode cX3_sign 1 = .ok (.getfield 19, 3) := by decide +kernel
theorem dX3_sign_4 : decode cX3_sign 4 = .ok (.ifCond .lt 30, 3) := by decide +kernel
theorem dX3_sign_7 : decode cX3_sign 7 = .ok (.aload_n 0, 1) := by decide +kernel
theorem dX3_sign_8 : decode cX3_sign 8 = .ok (.getfield 19, 3) := by decide +kernel
theorem dX3_sign_11 : decode cX3_sign 11 = .ok (.aload_n 0, 1) := by decide +kernel
theorem dX3_sign_12 : decode cX3_sign 12 = .ok (.getfield 15, 3) := by decide +kernel
theorem dX3_sign_15 : decode cX3_sign 15 = .ok (.if_icmp .ge 19, 3) := by decide +kernel
theorem dX3_sign_18 : decode cX3_sign 18 = .ok (.aload_n 0, 1) := by decide +kernel
theorem dX3_sign_19 : decode cX3_sign 19 = .ok (.getfield 19, 3) := by decide +kernel
theorem dX3_sign_22 : decode cX3_sign 22 = .ok (.aload_n 0, 1) := by decide +kernel
theorem dX3_sign_23 : decode cX3_sign 23 = .ok (.getfield 11, 3) := by decide +kernel
theorem dX3_sign_26 : decode cX3_sign 26 = .ok (.arraylength, 1) := by decide +kernel
theorem dX3_sign_27 : decode cX3_sign 27 = .ok (.if_icmp .ge 7, 3) := by decide +kernel
theorem dX3_sign_30 : decode cX3_sign 30 = .ok (.iconst 1, 1) := by decide +kernel
theorem dX3_sign_31 : decode cX3_sign 31 = .ok (.goto 4, 3) := by decide +kernel
theorem dX3_sign_34 : decode cX3_sign 34 = .ok (.iconst 0, 1) := by decide +kernel
theorem dX3_sign_35 : decode cX3_sign 35 = .ok (.istore_n 1, 1) := by decide +kernel
theorem dX3_sign_36 : decode cX3_sign 36 = .ok (.iload_n 1, 1) := by decide +kernel
theorem dX3_sign_37 : decode cX3_sign 37 = .ok (.ifCond .eq 15, 3) := by decide +kernel
theorem dX3_sign_40 : decode cX3_sign 40 = .ok (.aload_n 0, 1) := by decide +kernel
theorem dX3_sign_41 : decode cX3_sign 41 = .ok (.getfield 11, 3) := by decide +kernel
theorem dX3_sign_44 : decode cX3_sign 44 = .ok (.aload_n 0, 1) := by decide +kernel
theorem dX3_sign_45 : decode cX3_sign 45 = .ok (.getfield 19, 3) := by decide +kernel
theorem dX3_sign_48 : decode cX3_sign 48 = .ok (.caload, 1) := by decide +kernel
theorem dX3_sign_49 : decode cX3_sign 49 = .ok (.goto 4, 3) := by decide +kernel
theorem dX3_sign_52 : decode cX3_sign 52 = .ok (.iconst (-1), 1) := by decide +kernel
theorem dX3_sign_53 : decode cX3_sign 53 = .ok (.ireturn, 1) := by decide +kernel
theorem dX3_take_0 : decode cX3_take 0 = .ok (.aload_n 0, 1) := by decide +kernel
theorem dX3_take_1 : decode cX3_take 1 = .ok (.invokevirtual 57, 3) := by decide +kernel
theorem dX3_take_4 : decode cX3_take 4 = .ok (.iload_n 1, 1) := by decide +kernel
theorem dX3_take_5 : decode cX3_take 5 = .ok (.if_icmp .eq 11, 3) := by decide +kernel
theorem dX3_take_8 : decode cX3_take 8 = .ok (.aload_n 0, 1) := by decide +kernel
theorem dX3_take_9 : decode cX3_take 9 = .ok (.iconst 1, 1) := by decide +kernel
theorem dX3_take_10 : decode cX3_take 10 = .ok (.putfield 22, 3) := by decide +kernel
theorem dX3_take_13 : decode cX3_take 13 = .ok (.goto 20, 3) := by decide +kernel
theorem dX3_take_16 : decode cX3_take 16 = .ok (.aload_n 0, 1) := by decide +kernel
theorem dX3_take_17 : decode cX3_take 17 = .ok (.getfield 22, 3) := by decide +kernel
theorem dX3_take_20 : decode cX3_take 20 = .ok (.ifCond .ne 13, 3) := by decide +kernel
theorem dX3_take_23 : decode cX3_take 23 = .ok (.aload_n 0, 1) := by decide +kernel
theorem dX3_take_24 : decode cX3_take 24 = .ok (.dup, 1) := by decide +kernel
theorem dX3_take_25 : decode cX3_take 25 = .ok (.getfield 19, 3) := by decide +kernel
theorem dX3_take_28 : decode cX3_take 28 = .ok (.iconst 1, 1) := by decide +kernel
theorem dX3_take_29 : decode cX3_take 29 = .ok (.iadd, 1) := by decide +kernel
theorem dX3_take_30 : decode cX3_take 30 = .ok (.putfield 19, 3) := by decide +kernel
theorem dX3_take_33 : decode cX3_take 33 = .ok (.return_, 1) := by decide +kernel
theorem dX3_number_0 : decode cX3_number 0 = .ok (.iconst 0, 1) := by decide +kernel
theorem dX3_number_1 : decode cX3_number 1 = .ok (.istore_n 3, 1) := by decide +kernel
theorem dX3_number_2 : decode cX3_number 2 = .ok (.iconst 0, 1) := by decide +kernel
theorem dX3_number_3 : decode cX3_number 3 = .ok (.istore 4, 2) := by decide +kernel
theorem dX3_number_5 : decode cX3_number 5 = .ok (.aload_n 0, 1) := by decide +kernel
theorem dX3_number_6 : decode cX3_number 6 = .ok (.getfield 22, 3) := by decide +kernel
theorem dX3_number_9 : decode cX3_number 9 = .ok (.ifCond .ne 121, 3) := by decide +kernel
theorem dX3_number_12 : decode cX3_number 12 = .ok (.iload 4, 2) := by decide +kernel
theorem dX3_number_14 : decode cX3_number 14 = .ok (.iconst 3, 1) := by decide +kernel
theorem dX3_number_15 : decode cX3_number 15 = .ok (.if_icmp .ge 115, 3) := by decide +kernel
theorem dX3_number_18 : decode cX3_number 18 = .ok (.aload_n 0, 1) := by decide +kernel
theorem dX3_number_19 : decode cX3_number 19 = .ok (.invokevirtual 57, 3) := by decide +kernel
theorem dX3_number_22 : decode cX3_number 22 = .ok (.bipush 48, 2) := by decide +kernel
theorem dX3_number_24 : decode cX3_number 24 = .ok (.isub, 1) := by decide +kernel
theorem dX3_number_25 : decode cX3_number 25 = .ok (.istore 5, 2) := by decide +kernel
theorem dX3_number_27 : decode cX3_number 27 = .ok (.iload 5, 2) := by decide +kernel
theorem dX3_number_29 : decode cX3_number 29 = .ok (.ifCond .lt 25, 3) := by decide +kernel
theorem dX3_number_32 : decode cX3_number 32 = .ok (.iload 5, 2) := by decide +kernel
theorem dX3_number_34 : decode cX3_number 34 = .ok (.bipush 9, 2) := by decide +kernel
theorem dX3_number_36 : decode cX3_number 36 = .ok (.if_icmp .gt 18, 3) := by decide +kernel
theorem dX3_number_39 : decode cX3_number 39 = .ok (.iload_n 3, 1) := by decide +kernel
theorem dX3_number_40 : decode cX3_number 40 = .ok (.bipush 10, 2) := by decide +kernel
theorem dX3_number_42 : decode cX3_number 42 = .ok (.imul, 1) := by decide +kernel
theorem dX3_number_43 : decode cX3_number 43 = .ok (.iload 5, 2) := by decide +kernel
theorem dX3_number_45 : decode cX3_number 45 = .ok (.iadd, 1) := by decide +kernel
theorem dX3_number_46 : decode cX3_number 46 = .ok (.iload_n 2, 1) := by decide +kernel
theorem dX3_number_47 : decode cX3_number 47 = .ok (.if_icmp .gt 7, 3) := by decide +kernel
theorem dX3_number_50 : decode cX3_number 50 = .ok (.iconst 1, 1) := by decide +kernel
theorem dX3_number_51 : decode cX3_number 51 = .ok (.goto 4, 3) := by decide +kernel
theorem dX3_number_54 : decode cX3_number 54 = .ok (.iconst 0, 1) := by decide +kernel
theorem dX3_number_55 : decode cX3_number 55 = .ok (.istore 6, 2) := by decide +kernel
theorem dX3_number_57 : decode cX3_number 57 = .ok (.iload 4, 2) := by decide +kernel
theorem dX3_number_59 : decode cX3_number 59 = .ok (.ifCond .ne 7, 3) := by decide +kernel
theorem dX3_number_62 : decode cX3_number 62 = .ok (.iconst 1, 1) := by decide +kernel
theorem dX3_number_63 : decode cX3_number 63 = .ok (.goto 4, 3) := by decide +kernel
theorem dX3_number_66 : decode cX3_number 66 = .ok (.iconst 0, 1) := by decide +kernel
theorem dX3_number_67 : decode cX3_number 67 = .ok (.istore 7, 2) := by decide +kernel
theorem dX3_number_69 : decode cX3_number 69 = .ok (.iload 7, 2) := by decide +kernel
theorem dX3_number_71 : decode cX3_number 71 = .ok (.ifCond .eq 17, 3) := by decide +kernel
theorem dX3_number_74 : decode cX3_number 74 = .ok (.iload 6, 2) := by decide +kernel
theorem dX3_number_76 : decode cX3_number 76 = .ok (.ifCond .eq 21, 3) := by decide +kernel
theorem dX3_number_79 : decode cX3_number 79 = .ok (.iload 5, 2) := by decide +kernel
theorem dX3_number_81 : decode cX3_number 81 = .ok (.iload_n 1, 1) := by decide +kernel
theorem dX3_number_82 : decode cX3_number 82 = .ok (.if_icmp .ge 24, 3) := by decide +kernel
theorem dX3_number_85 : decode cX3_number 85 = .ok (.goto 12, 3) := by decide +kernel
theorem dX3_number_88 : decode cX3_number 88 = .ok (.iload 6, 2) := by decide +kernel
theorem dX3_number_90 : decode cX3_number 90 = .ok (.ifCond .eq 7, 3) := by decide +kernel
theorem dX3_number_93 : decode cX3_number 93 = .ok (.iload_n 3, 1) := by decide +kernel
theorem dX3_number_94 : decode cX3_number 94 = .ok (.ifCond .ne 12, 3) := by decide +kernel
theorem dX3_number_97 : decode cX3_number 97 = .ok (.aload_n 0, 1) := by decide +kernel
theorem dX3_number_98 : decode cX3_number 98 = .ok (.iload 7, 2) := by decide +kernel
theorem dX3_number_100 : decode cX3_number 100 = .ok (.putfield 22, 3) := by decide +kernel
theorem dX3_number_103 : decode cX3_number 103 = .ok (.goto 27, 3) := by decide +kernel
theorem dX3_number_106 : decode cX3_number 106 = .ok (.iload_n 3, 1) := by decide +kernel
theorem dX3_number_107 : decode cX3_number 107 = .ok (.bipush 10, 2) := by decide +kernel
theorem dX3_number_109 : decode cX3_number 109 = .ok (.imul, 1) := by decide +kernel
theorem dX3_number_110 : decode cX3_number 110 = .ok (.iload 5, 2) := by decide +kernel
theorem dX3_number_112 : decode cX3_number 112 = .ok (.iadd, 1) := by decide +kernel
theorem dX3_number_113 : decode cX3_number 113 = .ok (.istore_n 3, 1) := by decide +kernel
theorem dX3_number_114 : decode cX3_number 114 = .ok (.aload_n 0, 1) := by decide +kernel
theorem dX3_number_115 : decode cX3_number 115 = .ok (.dup, 1) := by decide +kernel
theorem dX3_number_116 : decode cX3_number 116 = .ok (.getfield 19, 3) := by decide +kernel
theorem dX3_number_119 : decode cX3_number 119 = .ok (.iconst 1, 1) := by decide +kernel
theorem dX3_number_120 : decode cX3_number 120 = .ok (.iadd, 1) := by decide +kernel
theorem dX3_number_121 : decode cX3_number 121 = .ok (.putfield 19, 3) := by decide +kernel
theorem dX3_number_124 : decode cX3_number 124 = .ok (.iinc 4 1, 3) := by decide +kernel
theorem dX3_number_127 : decode cX3_number 127 = .ok (.goto (-122), 3) := by decide +kernel
theorem dX3_number_130 : decode cX3_number 130 = .ok (.iload_n 3, 1) := by decide +kernel
theorem dX3_number_131 : decode cX3_number 131 = .ok (.ireturn, 1) := by decide +kernel
theorem dX4_at_0 : decode cX4_at 0 = .ok (.aload_n 0, 1) := by decide +kernel
theorem dX4_at_1 : decode cX4_at 1 = .ok (.ifnull 19, 3) := by decide +kernel
theorem dX4_at_4 : decode cX4_at 4 = .ok (.iload_n 1, 1) := by decide +kernel
theorem dX4_at_5 : decode cX4_at 5 = .ok (.ifCond .lt 15, 3) := by decide +kernel
theorem dX4_at_8 : decode cX4_at 8 = .ok (.iload_n 1, 1) := by decide +kernel
theorem dX4_at_9 : decode cX4_at 9 = .ok (.aload_n 0, 1) := by decide +kernel
theorem dX4_at_10 : decode cX4_at 10 = .ok (.arraylength, 1) := by decide +kernel
theorem dX4_at_11 : decode cX4_at 11 = .ok (.if_icmp .ge 9, 3) := by decide +kernel
theorem dX4_at_14 : decode cX4_at 14 = .ok (.aload_n 0, 1) := by decide +kernel
theorem dX4_at_15 : decode cX4_at 15 = .ok (.iload_n 1, 1) := by decide +kernel
theorem dX4_at_16 : decode cX4_at 16 = .ok (.iaload, 1) := by decide +kernel
theorem dX4_at_17 : decode cX4_at 17 = .ok (.goto 4, 3) := by decide +kernel
theorem dX4_at_20 : decode cX4_at 20 = .ok (.iconst 0, 1) := by decide +kernel
theorem dX4_at_21 : decode cX4_at 21 = .ok (.ireturn, 1) := by decide +kernel
theorem dX4_put_0 : decode cX4_put 0 = .ok (.aload_n 0, 1) := by decide +kernel
theorem dX4_put_1 : decode cX4_put 1 = .ok (.ifnull 17, 3) := by decide +kernel
theorem dX4_put_4 : decode cX4_put 4 = .ok (.iload_n 1, 1) := by decide +kernel
theorem dX4_put_5 : decode cX4_put 5 = .ok (.ifCond .lt 13, 3) := by decide +kernel
theorem dX4_put_8 : decode cX4_put 8 = .ok (.iload_n 1, 1) := by decide +kernel
theorem dX4_put_9 : decode cX4_put 9 = .ok (.aload_n 0, 1) := by decide +kernel
theorem dX4_put_10 : decode cX4_put 10 = .ok (.arraylength, 1) := by decide +kernel
theorem dX4_put_11 : decode cX4_put 11 = .ok (.if_icmp .ge 7, 3) := by decide +kernel
theorem dX4_put_14 : decode cX4_put 14 = .ok (.aload_n 0, 1) := by decide +kernel
theorem dX4_put_15 : decode cX4_put 15 = .ok (.iload_n 1, 1) := by decide +kernel
theorem dX4_put_16 : decode cX4_put 16 = .ok (.iload_n 2, 1) := by decide +kernel
theorem dX4_put_17 : decode cX4_put 17 = .ok (.iastore, 1) := by decide +kernel
theorem dX4_put_18 : decode cX4_put 18 = .ok (.return_, 1) := by decide +kernel
theorem dX4_add_0 : decode cX4_add 0 = .ok (.aload_n 0, 1) := by decide +kernel
theorem dX4_add_1 : decode cX4_add 1 = .ok (.ifnull 20, 3) := by decide +kernel
theorem dX4_add_4 : decode cX4_add 4 = .ok (.iload_n 1, 1) := by decide +kernel
theorem dX4_add_5 : decode cX4_add 5 = .ok (.ifCond .lt 16, 3) := by decide +kernel
theorem dX4_add_8 : decode cX4_add 8 = .ok (.iload_n 1, 1) := by decide +kernel
theorem dX4_add_9 : decode cX4_add 9 = .ok (.aload_n 0, 1) := by decide +kernel
theorem dX4_add_10 : decode cX4_add 10 = .ok (.arraylength, 1) := by decide +kernel
theorem dX4_add_11 : decode cX4_add 11 = .ok (.if_icmp .ge 10, 3) := by decide +kernel
theorem dX4_add_14 : decode cX4_add 14 = .ok (.aload_n 0, 1) := by decide +kernel
theorem dX4_add_15 : decode cX4_add 15 = .ok (.iload_n 1, 1) := by decide +kernel
theorem dX4_add_16 : decode cX4_add 16 = .ok (.dup2, 1) := by decide +kernel
theorem dX4_add_17 : decode cX4_add 17 = .ok (.iaload, 1) := by decide +kernel
theorem dX4_add_18 : decode cX4_add 18 = .ok (.iload_n 2, 1) := by decide +kernel
theorem dX4_add_19 : decode cX4_add 19 = .ok (.iadd, 1) := by decide +kernel
theorem dX4_add_20 : decode cX4_add 20 = .ok (.iastore, 1) := by decide +kernel
theorem dX4_add_21 : decode cX4_add 21 = .ok (.return_, 1) := by decide +kernel
theorem dX4_sum_0 : decode cX4_sum 0 = .ok (.iconst 0, 1) := by decide +kernel
theorem dX4_sum_1 : decode cX4_sum 1 = .ok (.istore_n 1, 1) := by decide +kernel
theorem dX4_sum_2 : decode cX4_sum 2 = .ok (.aload_n 0, 1) := by decide +kernel
theorem dX4_sum_3 : decode cX4_sum 3 = .ok (.ifnull 23, 3) := by decide +kernel
theorem dX4_sum_6 : decode cX4_sum 6 = .ok (.iconst 0, 1) := by decide +kernel
theorem dX4_sum_7 : decode cX4_sum 7 = .ok (.istore_n 2, 1) := by decide +kernel
theorem dX4_sum_8 : decode cX4_sum 8 = .ok (.iload_n 2, 1) := by decide +kernel
theorem dX4_sum_9 : decode cX4_sum 9 = .ok (.aload_n 0, 1) := by decide +kernel
theorem dX4_sum_10 : decode cX4_sum 10 = .ok (.arraylength, 1) := by decide +kernel
theorem dX4_sum_11 : decode cX4_sum 11 = .ok (.if_icmp .ge 15, 3) := by decide +kernel
theorem dX4_sum_14 : decode cX4_sum 14 = .ok (.iload_n 1, 1) := by decide +kernel
theorem dX4_sum_15 : decode cX4_sum 15 = .ok (.aload_n 0, 1) := by decide +kernel
theorem dX4_sum_16 : decode cX4_sum 16 = .ok (.iload_n 2, 1) := by decide +kernel
theorem dX4_sum_17 : decode cX4_sum 17 = .ok (.iaload, 1) := by decide +kernel
theorem dX4_sum_18 : decode cX4_sum 18 = .ok (.iadd, 1) := by decide +kernel
theorem dX4_sum_19 : decode cX4_sum 19 = .ok (.istore_n 1, 1) := by decide +kernel
theorem dX4_sum_20 : decode cX4_sum 20 = .ok (.iinc 2 1, 3) := by decide +kernel
theorem dX4_sum_23 : decode cX4_sum 23 = .ok (.goto (-15), 3) := by decide +kernel
theorem dX4_sum_26 : decode cX4_sum 26 = .ok (.iload_n 1, 1) := by decide +kernel
theorem dX4_sum_27 : decode cX4_sum 27 = .ok (.ireturn, 1) := by decide +kernel
theorem dX4_fill_0 : decode cX4_fill 0 = .ok (.aload_n 0, 1) := by decide +kernel
theorem dX4_fill_1 : decode cX4_fill 1 = .ok (.ifnull 21, 3) := by decide +kernel
theorem dX4_fill_4 : decode cX4_fill 4 = .ok (.iconst 0, 1) := by decide +kernel
theorem dX4_fill_5 : decode cX4_fill 5 = .ok (.istore_n 2, 1) := by decide +kernel
theorem dX4_fill_6 : decode cX4_fill 6 = .ok (.iload_n 2, 1) := by decide +kernel
theorem dX4_fill_7 : decode cX4_fill 7 = .ok (.aload_n 0, 1) := by decide +kernel
theorem dX4_fill_8 : decode cX4_fill 8 = .ok (.arraylength, 1) := by decide +kernel
theorem dX4_fill_9 : decode cX4_fill 9 = .ok (.if_icmp .ge 13, 3) := by decide +kernel
theorem dX4_fill_12 : decode cX4_fill 12 = .ok (.aload_n 0, 1) := by decide +kernel
theorem dX4_fill_13 : decode cX4_fill 13 = .ok (.iload_n 2, 1) := by decide +kernel
theorem dX4_fill_14 : decode cX4_fill 14 = .ok (.iload_n 1, 1) := by decide +kernel
theorem dX4_fill_15 : decode cX4_fill 15 = .ok (.iastore, 1) := by decide +kernel
theorem dX4_fill_16 : decode cX4_fill 16 = .ok (.iinc 2 1, 3) := by decide +kernel
theorem dX4_fill_19 : decode cX4_fill 19 = .ok (.goto (-13), 3) := by decide +kernel
theorem dX4_fill_22 : decode cX4_fill 22 = .ok (.return_, 1) := by decide +kernel
theorem dX4_copy_0 : decode cX4_copy 0 = .ok (.aload_n 0, 1) := by decide +kernel
theorem dX4_copy_1 : decode cX4_copy 1 = .ok (.ifnull 21, 3) := by decide +kernel
theorem dX4_copy_4 : decode cX4_copy 4 = .ok (.aload_n 1, 1) := by decide +kernel
theorem dX4_copy_5 : decode cX4_copy 5 = .ok (.ifnull 17, 3) := by decide +kernel
theorem dX4_copy_8 : decode cX4_copy 8 = .ok (.aload_n 0, 1) := by decide +kernel
theorem dX4_copy_9 : decode cX4_copy 9 = .ok (.iconst 0, 1) := by decide +kernel
theorem dX4_copy_10 : decode cX4_copy 10 = .ok (.aload_n 1, 1) := by decide +kernel
theorem dX4_copy_11 : decode cX4_copy 11 = .ok (.iconst 0, 1) := by decide +kernel
theorem dX4_copy_12 : decode cX4_copy 12 = .ok (.aload_n 0, 1) := by decide +kernel
theorem dX4_copy_13 : decode cX4_copy 13 = .ok (.arraylength, 1) := by decide +kernel
theorem dX4_copy_14 : decode cX4_copy 14 = .ok (.aload_n 1, 1) := by decide +kernel
theorem dX4_copy_15 : decode cX4_copy 15 = .ok (.arraylength, 1) := by decide +kernel
theorem dX4_copy_16 : decode cX4_copy 16 = .ok (.invokestatic 7, 3) := by decide +kernel
theorem dX4_copy_19 : decode cX4_copy 19 = .ok (.invokestatic 13, 3) := by decide +kernel
theorem dX4_copy_22 : decode cX4_copy 22 = .ok (.return_, 1) := by decide +kernel
theorem dX5_init_0 : decode cX5_init 0 = .ok (.aload_n 0, 1) := by decide +kernel
theorem dX5_init_1 : decode cX5_init 1 = .ok (.invokespecial 3, 3) := by decide +kernel
theorem dX5_init_4 : decode cX5_init 4 = .ok (.aload_n 0, 1) := by decide +kernel
theorem dX5_init_5 : decode cX5_init 5 = .ok (.bipush 48, 2) := by decide +kernel
theorem dX5_init_7 : decode cX5_init 7 = .ok (.newarray .int, 2) := by decide +kernel
theorem dX5_init_9 : decode cX5_init 9 = .ok (.putfield 9, 3) := by decide +kernel
theorem dX5_init_12 : decode cX5_init 12 = .ok (.aload_n 0, 1) := by decide +kernel
theorem dX5_init_13 : decode cX5_init 13 = .ok (.bipush 48, 2) := by decide +kernel
theorem dX5_init_15 : decode cX5_init 15 = .ok (.newarray .int, 2) := by decide +kernel
theorem dX5_init_17 : decode cX5_init 17 = .ok (.putfield 15, 3) := by decide +kernel
theorem dX5_init_20 : decode cX5_init 20 = .ok (.aload_n 0, 1) := by decide +kernel
theorem dX5_init_21 : decode cX5_init 21 = .ok (.bipush 48, 2) := by decide +kernel
theorem dX5_init_23 : decode cX5_init 23 = .ok (.newarray .int, 2) := by decide +kernel
theorem dX5_init_25 : decode cX5_init 25 = .ok (.putfield 18, 3) := by decide +kernel
theorem dX5_init_28 : decode cX5_init 28 = .ok (.aload_n 0, 1) := by decide +kernel
theorem dX5_init_29 : decode cX5_init 29 = .ok (.bipush 48, 2) := by decide +kernel
theorem dX5_init_31 : decode cX5_init 31 = .ok (.newarray .int, 2) := by decide +kernel
theorem dX5_init_33 : decode cX5_init 33 = .ok (.putfield 21, 3) := by decide +kernel
theorem dX5_init_36 : decode cX5_init 36 = .ok (.aload_n 0, 1) := by decide +kernel
theorem dX5_init_37 : decode cX5_init 37 = .ok (.getfield 9, 3) := by decide +kernel
theorem dX5_init_40 : decode cX5_init 40 = .ok (.bipush (-5), 2) := by decide +kernel
theorem dX5_init_42 : decode cX5_init 42 = .ok (.invokestatic 24, 3) := by decide +kernel
theorem dX5_init_45 : decode cX5_init 45 = .ok (.return_, 1) := by decide +kernel
theorem dX5_copy_0 : decode cX5_copy 0 = .ok (.aload_n 1, 1) := by decide +kernel
theorem dX5_copy_1 : decode cX5_copy 1 = .ok (.getfield 9, 3) := by decide +kernel
theorem dX5_copy_4 : decode cX5_copy 4 = .ok (.aload_n 0, 1) := by decide +kernel
theorem dX5_copy_5 : decode cX5_copy 5 = .ok (.getfield 9, 3) := by decide +kernel
theorem dX5_copy_8 : decode cX5_copy 8 = .ok (.invokestatic 30, 3) := by decide +kernel
theorem dX5_copy_11 : decode cX5_copy 11 = .ok (.aload_n 1, 1) := by decide +kernel
theorem dX5_copy_12 : decode cX5_copy 12 = .ok (.getfield 15, 3) := by decide +kernel
theorem dX5_copy_15 : decode cX5_copy 15 = .ok (.aload_n 0, 1) := by decide +kernel
theorem dX5_copy_16 : decode cX5_copy 16 = .ok (.getfield 15, 3) := by decide +kernel
theorem dX5_copy_19 : decode cX5_copy 19 = .ok (.invokestatic 30, 3) := by decide +kernel
theorem dX5_copy_22 : decode cX5_copy 22 = .ok (.aload_n 1, 1) := by decide +kernel
theorem dX5_copy_23 : decode cX5_copy 23 = .ok (.getfield 18, 3) := by decide +kernel
theorem dX5_copy_26 : decode cX5_copy 26 = .ok (.aload_n 0, 1) := by decide +kernel
theorem dX5_copy_27 : decode cX5_copy 27 = .ok (.getfield 18, 3) := by decide +kernel
theorem dX5_copy_30 : decode cX5_copy 30 = .ok (.invokestatic 30, 3) := by decide +kernel
theorem dX5_copy_33 : decode cX5_copy 33 = .ok (.aload_n 1, 1) := by decide +kernel
theorem dX5_copy_34 : decode cX5_copy 34 = .ok (.getfield 21, 3) := by decide +kernel
theorem dX5_copy_37 : decode cX5_copy 37 = .ok (.aload_n 0, 1) := by decide +kernel
theorem dX5_copy_38 : decode cX5_copy 38 = .ok (.getfield 21, 3) := by decide +kernel
theorem dX5_copy_41 : decode cX5_copy 41 = .ok (.invokestatic 30, 3) := by decide +kernel
theorem dX5_copy_44 : decode cX5_copy 44 = .ok (.return_, 1) := by decide +kernel
theorem dX5_clear_0 : decode cX5_clear 0 = .ok (.aload_n 0, 1) := by decide +kernel
theorem dX5_clear_1 : decode cX5_clear 1 = .ok (.getfield 9, 3) := by decide +kernel
theorem dX5_clear_4 : decode cX5_clear 4 = .ok (.bipush (-5), 2) := by decide +kernel
theorem dX5_clear_6 : decode cX5_clear 6 = .ok (.invokestatic 24, 3) := by decide +kernel
theorem dX5_clear_9 : decode cX5_clear 9 = .ok (.aload_n 0, 1) := by decide +kernel
theorem dX5_clear_10 : decode cX5_clear 10 = .ok (.getfield 15, 3) := by decide +kernel
theorem dX5_clear_13 : decode cX5_clear 13 = .ok (.iconst 0, 1) := by decide +kernel
theorem dX5_clear_14 : decode cX5_clear 14 = .ok (.invokestatic 24, 3) := by decide +kernel
theorem dX5_clear_17 : decode cX5_clear 17 = .ok (.aload_n 0, 1) := by decide +kernel
theorem dX5_clear_18 : decode cX5_clear 18 = .ok (.getfield 18, 3) := by decide +kernel
theorem dX5_clear_21 : decode cX5_clear 21 = .ok (.iconst 0, 1) := by decide +kernel
theorem dX5_clear_22 : decode cX5_clear 22 = .ok (.invokestatic 24, 3) := by decide +kernel
theorem dX5_clear_25 : decode cX5_clear 25 = .ok (.aload_n 0, 1) := by decide +kernel
theorem dX5_clear_26 : decode cX5_clear 26 = .ok (.getfield 21, 3) := by decide +kernel
theorem dX5_clear_29 : decode cX5_clear 29 = .ok (.iconst 0, 1) := by decide +kernel
theorem dX5_clear_30 : decode cX5_clear 30 = .ok (.invokestatic 24, 3) := by decide +kernel
theorem dX5_clear_33 : decode cX5_clear 33 = .ok (.return_, 1) := by decide +kernel
theorem dX5_ownerOf_0 : decode cX5_ownerOf 0 = .ok (.aload_n 0, 1) := by decide +kernel
theorem dX5_ownerOf_1 : decode cX5_ownerOf 1 = .ok (.getfield 9, 3) := by decide +kernel
theorem dX5_ownerOf_4 : decode cX5_ownerOf 4 = .ok (.iload_n 1, 1) := by decide +kernel
theorem dX5_ownerOf_5 : decode cX5_ownerOf 5 = .ok (.invokestatic 34, 3) := by decide +kernel
theorem dX5_ownerOf_8 : decode cX5_ownerOf 8 = .ok (.ireturn, 1) := by decide +kernel
theorem dX5_isAwarded_0 : decode cX5_isAwarded 0 = .ok (.aload_n 0, 1) := by decide +kernel
theorem dX5_isAwarded_1 : decode cX5_isAwarded 1 = .ok (.getfield 9, 3) := by decide +kernel
theorem dX5_isAwarded_4 : decode cX5_isAwarded 4 = .ok (.iload_n 1, 1) := by decide +kernel
theorem dX5_isAwarded_5 : decode cX5_isAwarded 5 = .ok (.invokestatic 34, 3) := by decide +kernel
theorem dX5_isAwarded_8 : decode cX5_isAwarded 8 = .ok (.bipush (-5), 2) := by decide +kernel
theorem dX5_isAwarded_10 : decode cX5_isAwarded 10 = .ok (.if_icmp .eq 7, 3) := by decide +kernel
theorem dX5_isAwarded_13 : decode cX5_isAwarded 13 = .ok (.iconst 1, 1) := by decide +kernel
theorem dX5_isAwarded_14 : decode cX5_isAwarded 14 = .ok (.goto 4, 3) := by decide +kernel
theorem dX5_isAwarded_17 : decode cX5_isAwarded 17 = .ok (.iconst 0, 1) := by decide +kernel
theorem dX5_isAwarded_18 : decode cX5_isAwarded 18 = .ok (.ireturn, 1) := by decide +kernel
theorem dX5_give_0 : decode cX5_give 0 = .ok (.aload_n 0, 1) := by decide +kernel
theorem dX5_give_1 : decode cX5_give 1 = .ok (.getfield 9, 3) := by decide +kernel
theorem dX5_give_4 : decode cX5_give 4 = .ok (.iload_n 1, 1) := by decide +kernel
theorem dX5_give_5 : decode cX5_give 5 = .ok (.iload_n 2, 1) := by decide +kernel
theorem dX5_give_6 : decode cX5_give 6 = .ok (.invokestatic 38, 3) := by decide +kernel
theorem dX5_give_9 : decode cX5_give 9 = .ok (.aload_n 0, 1) := by decide +kernel
theorem dX5_give_10 : decode cX5_give 10 = .ok (.getfield 15, 3) := by decide +kernel
theorem dX5_give_13 : decode cX5_give 13 = .ok (.iload_n 1, 1) := by decide +kernel
theorem dX5_give_14 : decode cX5_give 14 = .ok (.iload_n 3, 1) := by decide +kernel
theorem dX5_give_15 : decode cX5_give 15 = .ok (.invokestatic 38, 3) := by decide +kernel
theorem dX5_give_18 : decode cX5_give 18 = .ok (.return_, 1) := by decide +kernel
theorem dX6_init_0 : decode cX6_init 0 = .ok (.aload_n 0, 1) := by decide +kernel
theorem dX6_init_1 : decode cX6_init 1 = .ok (.invokespecial 3, 3) := by decide +kernel
theorem dX6_init_4 : decode cX6_init 4 = .ok (.aload_n 0, 1) := by decide +kernel
theorem dX6_init_5 : decode cX6_init 5 = .ok (.iconst 0, 1) := by decide +kernel
theorem dX6_init_6 : decode cX6_init 6 = .ok (.putfield 9, 3) := by decide +kernel
theorem dX6_init_9 : decode cX6_init 9 = .ok (.aload_n 0, 1) := by decide +kernel
theorem dX6_init_10 : decode cX6_init 10 = .ok (.iconst 0, 1) := by decide +kernel
theorem dX6_init_11 : decode cX6_init 11 = .ok (.putfield 15, 3) := by decide +kernel
theorem dX6_init_14 : decode cX6_init 14 = .ok (.aload_n 0, 1) := by decide +kernel
theorem dX6_init_15 : decode cX6_init 15 = .ok (.bipush 16, 2) := by decide +kernel
theorem dX6_init_17 : decode cX6_init 17 = .ok (.newarray .int, 2) := by decide +kernel
theorem dX6_init_19 : decode cX6_init 19 = .ok (.putfield 18, 3) := by decide +kernel
theorem dX6_init_22 : decode cX6_init 22 = .ok (.aload_n 0, 1) := by decide +kernel
theorem dX6_init_23 : decode cX6_init 23 = .ok (.bipush 16, 2) := by decide +kernel
theorem dX6_init_25 : decode cX6_init 25 = .ok (.newarray .int, 2) := by decide +kernel
theorem dX6_init_27 : decode cX6_init 27 = .ok (.putfield 22, 3) := by decide +kernel
theorem dX6_init_30 : decode cX6_init 30 = .ok (.aload_n 0, 1) := by decide +kernel
theorem dX6_init_31 : decode cX6_init 31 = .ok (.new 25, 3) := by decide +kernel
theorem dX6_init_34 : decode cX6_init 34 = .ok (.dup, 1) := by decide +kernel
theorem dX6_init_35 : decode cX6_init 35 = .ok (.invokespecial 27, 3) := by decide +kernel
theorem dX6_init_38 : decode cX6_init 38 = .ok (.putfield 28, 3) := by decide +kernel
theorem dX6_init_41 : decode cX6_init 41 = .ok (.aload_n 0, 1) := by decide +kernel
theorem dX6_init_42 : decode cX6_init 42 = .ok (.new 32, 3) := by decide +kernel
theorem dX6_init_45 : decode cX6_init 45 = .ok (.dup, 1) := by decide +kernel
theorem dX6_init_46 : decode cX6_init 46 = .ok (.invokespecial 34, 3) := by decide +kernel
theorem dX6_init_49 : decode cX6_init 49 = .ok (.putfield 35, 3) := by decide +kernel
theorem dX6_init_52 : decode cX6_init 52 = .ok (.aload_n 0, 1) := by decide +kernel
theorem dX6_init_53 : decode cX6_init 53 = .ok (.new 39, 3) := by decide +kernel
theorem dX6_init_56 : decode cX6_init 56 = .ok (.dup, 1) := by decide +kernel
theorem dX6_init_57 : decode cX6_init 57 = .ok (.invokespecial 41, 3) := by decide +kernel
theorem dX6_init_60 : decode cX6_init 60 = .ok (.putfield 42, 3) := by decide +kernel
theorem dX6_init_63 : decode cX6_init 63 = .ok (.aload_n 0, 1) := by decide +kernel
theorem dX6_init_64 : decode cX6_init 64 = .ok (.new 46, 3) := by decide +kernel
theorem dX6_init_67 : decode cX6_init 67 = .ok (.dup, 1) := by decide +kernel
theorem dX6_init_68 : decode cX6_init 68 = .ok (.invokespecial 48, 3) := by decide +kernel
theorem dX6_init_71 : decode cX6_init 71 = .ok (.putfield 49, 3) := by decide +kernel
theorem dX6_init_74 : decode cX6_init 74 = .ok (.aload_n 0, 1) := by decide +kernel
theorem dX6_init_75 : decode cX6_init 75 = .ok (.getfield 18, 3) := by decide +kernel
theorem dX6_init_78 : decode cX6_init 78 = .ok (.bipush 20, 2) := by decide +kernel
theorem dX6_init_80 : decode cX6_init 80 = .ok (.invokestatic 53, 3) := by decide +kernel
theorem dX6_init_83 : decode cX6_init 83 = .ok (.return_, 1) := by decide +kernel
theorem dX6_copy_0 : decode cX6_copy 0 = .ok (.aload_n 0, 1) := by decide +kernel
theorem dX6_copy_1 : decode cX6_copy 1 = .ok (.aload_n 1, 1) := by decide +kernel
theorem dX6_copy_2 : decode cX6_copy 2 = .ok (.getfield 9, 3) := by decide +kernel
theorem dX6_copy_5 : decode cX6_copy 5 = .ok (.putfield 9, 3) := by decide +kernel
theorem dX6_copy_8 : decode cX6_copy 8 = .ok (.aload_n 0, 1) := by decide +kernel
theorem dX6_copy_9 : decode cX6_copy 9 = .ok (.aload_n 1, 1) := by decide +kernel
theorem dX6_copy_10 : decode cX6_copy 10 = .ok (.getfield 15, 3) := by decide +kernel
theorem dX6_copy_13 : decode cX6_copy 13 = .ok (.putfield 15, 3) := by decide +kernel
theorem dX6_copy_16 : decode cX6_copy 16 = .ok (.aload_n 1, 1) := by decide +kernel
theorem dX6_copy_17 : decode cX6_copy 17 = .ok (.getfield 18, 3) := by decide +kernel
theorem dX6_copy_20 : decode cX6_copy 20 = .ok (.aload_n 0, 1) := by decide +kernel
theorem dX6_copy_21 : decode cX6_copy 21 = .ok (.getfield 18, 3) := by decide +kernel
theorem dX6_copy_24 : decode cX6_copy 24 = .ok (.invokestatic 59, 3) := by decide +kernel
theorem dX6_copy_27 : decode cX6_copy 27 = .ok (.aload_n 1, 1) := by decide +kernel
theorem dX6_copy_28 : decode cX6_copy 28 = .ok (.getfield 22, 3) := by decide +kernel
theorem dX6_copy_31 : decode cX6_copy 31 = .ok (.aload_n 0, 1) := by decide +kernel
theorem dX6_copy_32 : decode cX6_copy 32 = .ok (.getfield 22, 3) := by decide +kernel
theorem dX6_copy_35 : decode cX6_copy 35 = .ok (.invokestatic 59, 3) := by decide +kernel
theorem dX6_copy_38 : decode cX6_copy 38 = .ok (.aload_n 0, 1) := by decide +kernel
theorem dX6_copy_39 : decode cX6_copy 39 = .ok (.getfield 28, 3) := by decide +kernel
theorem dX6_copy_42 : decode cX6_copy 42 = .ok (.aload_n 1, 1) := by decide +kernel
theorem dX6_copy_43 : decode cX6_copy 43 = .ok (.getfield 28, 3) := by decide +kernel
theorem dX6_copy_46 : decode cX6_copy 46 = .ok (.invokevirtual 63, 3) := by decide +kernel
theorem dX6_copy_49 : decode cX6_copy 49 = .ok (.aload_n 0, 1) := by decide +kernel
theorem dX6_copy_50 : decode cX6_copy 50 = .ok (.getfield 35, 3) := by decide +kernel
theorem dX6_copy_53 : decode cX6_copy 53 = .ok (.aload_n 1, 1) := by decide +kernel
theorem dX6_copy_54 : decode cX6_copy 54 = .ok (.getfield 35, 3) := by decide +kernel
theorem dX6_copy_57 : decode cX6_copy 57 = .ok (.invokevirtual 66, 3) := by decide +kernel
theorem dX6_copy_60 : decode cX6_copy 60 = .ok (.aload_n 0, 1) := by decide +kernel
theorem dX6_copy_61 : decode cX6_copy 61 = .ok (.getfield 42, 3) := by decide +kernel
theorem dX6_copy_64 : decode cX6_copy 64 = .ok (.aload_n 1, 1) := by decide +kernel
theorem dX6_copy_65 : decode cX6_copy 65 = .ok (.getfield 42, 3) := by decide +kernel
theorem dX6_copy_68 : decode cX6_copy 68 = .ok (.invokevirtual 69, 3) := by decide +kernel
theorem dX6_copy_71 : decode cX6_copy 71 = .ok (.aload_n 0, 1) := by decide +kernel
theorem dX6_copy_72 : decode cX6_copy 72 = .ok (.getfield 49, 3) := by decide +kernel
theorem dX6_copy_75 : decode cX6_copy 75 = .ok (.aload_n 1, 1) := by decide +kernel
theorem dX6_copy_76 : decode cX6_copy 76 = .ok (.getfield 49, 3) := by decide +kernel
theorem dX6_copy_79 : decode cX6_copy 79 = .ok (.invokevirtual 72, 3) := by decide +kernel
theorem dX6_copy_82 : decode cX6_copy 82 = .ok (.return_, 1) := by decide +kernel
theorem dX6_isOver_0 : decode cX6_isOver 0 = .ok (.iload_n 1, 1) := by decide +kernel
theorem dX6_isOver_1 : decode cX6_isOver 1 = .ok (.aload_n 0, 1) := by decide +kernel
theorem dX6_isOver_2 : decode cX6_isOver 2 = .ok (.getfield 15, 3) := by decide +kernel
theorem dX6_isOver_5 : decode cX6_isOver 5 = .ok (.if_icmp .ge 7, 3) := by decide +kernel
theorem dX6_isOver_8 : decode cX6_isOver 8 = .ok (.iconst 1, 1) := by decide +kernel
theorem dX6_isOver_9 : decode cX6_isOver 9 = .ok (.goto 4, 3) := by decide +kernel
theorem dX6_isOver_12 : decode cX6_isOver 12 = .ok (.iconst 0, 1) := by decide +kernel
theorem dX6_isOver_13 : decode cX6_isOver 13 = .ok (.ireturn, 1) := by decide +kernel
theorem dX6_isOpen_0 : decode cX6_isOpen 0 = .ok (.aload_n 0, 1) := by decide +kernel
theorem dX6_isOpen_1 : decode cX6_isOpen 1 = .ok (.iload_n 2, 1) := by decide +kernel
theorem dX6_isOpen_2 : decode cX6_isOpen 2 = .ok (.invokevirtual 75, 3) := by decide +kernel
theorem dX6_isOpen_5 : decode cX6_isOpen 5 = .ok (.ifCond .ne 22, 3) := by decide +kernel
theorem dX6_isOpen_8 : decode cX6_isOpen 8 = .ok (.aload_n 0, 1) := by decide +kernel
theorem dX6_isOpen_9 : decode cX6_isOpen 9 = .ok (.getfield 35, 3) := by decide +kernel
theorem dX6_isOpen_12 : decode cX6_isOpen 12 = .ok (.iload_n 1, 1) := by decide +kernel
theorem dX6_isOpen_13 : decode cX6_isOpen 13 = .ok (.iload_n 2, 1) := by decide +kernel
theorem dX6_isOpen_14 : decode cX6_isOpen 14 = .ok (.invokestatic 79, 3) := by decide +kernel
theorem dX6_isOpen_17 : decode cX6_isOpen 17 = .ok (.invokevirtual 83, 3) := by decide +kernel
theorem dX6_isOpen_20 : decode cX6_isOpen 20 = .ok (.ifCond .ne 7, 3) := by decide +kernel
theorem dX6_isOpen_23 : decode cX6_isOpen 23 = .ok (.iconst 1, 1) := by decide +kernel
theorem dX6_isOpen_24 : decode cX6_isOpen 24 = .ok (.goto 4, 3) := by decide +kernel
theorem dX6_isOpen_27 : decode cX6_isOpen 27 = .ok (.iconst 0, 1) := by decide +kernel
theorem dX6_isOpen_28 : decode cX6_isOpen 28 = .ok (.ireturn, 1) := by decide +kernel
theorem dX6_heaviestLift_0 : decode cX6_heaviestLift 0 = .ok (.iload_n 1, 1) := by decide +kernel
theorem dX6_heaviestLift_1 : decode cX6_heaviestLift 1 = .ok (.aload_n 0, 1) := by decide +kernel
theorem dX6_heaviestLift_2 : decode cX6_heaviestLift 2 = .ok (.getfield 18, 3) := by decide +kernel
theorem dX6_heaviestLift_5 : decode cX6_heaviestLift 5 = .ok (.iload_n 2, 1) := by decide +kernel
theorem dX6_heaviestLift_6 : decode cX6_heaviestLift 6 = .ok (.invokestatic 86, 3) := by decide +kernel
theorem dX6_heaviestLift_9 : decode cX6_heaviestLift 9 = .ok (.invokestatic 90, 3) := by decide +kernel
theorem dX6_heaviestLift_12 : decode cX6_heaviestLift 12 = .ok (.ireturn, 1) := by decide +kernel
theorem dX6_freeCoins_0 : decode cX6_freeCoins 0 = .ok (.aload_n 0, 1) := by decide +kernel
theorem dX6_freeCoins_1 : decode cX6_freeCoins 1 = .ok (.getfield 42, 3) := by decide +kernel
theorem dX6_freeCoins_4 : decode cX6_freeCoins 4 = .ok (.getfield 93, 3) := by decide +kernel
theorem dX6_freeCoins_7 : decode cX6_freeCoins 7 = .ok (.iload_n 1, 1) := by decide +kernel
theorem dX6_freeCoins_8 : decode cX6_freeCoins 8 = .ok (.invokestatic 86, 3) := by decide +kernel
theorem dX6_freeCoins_11 : decode cX6_freeCoins 11 = .ok (.aload_n 0, 1) := by decide +kernel
theorem dX6_freeCoins_12 : decode cX6_freeCoins 12 = .ok (.getfield 28, 3) := by decide +kernel
theorem dX6_freeCoins_15 : decode cX6_freeCoins 15 = .ok (.iload_n 1, 1) := by decide +kernel
theorem dX6_freeCoins_16 : decode cX6_freeCoins 16 = .ok (.invokevirtual 96, 3) := by decide +kernel
theorem dX6_freeCoins_19 : decode cX6_freeCoins 19 = .ok (.isub, 1) := by decide +kernel
theorem dX6_freeCoins_20 : decode cX6_freeCoins 20 = .ok (.ireturn, 1) := by decide +kernel
theorem dX6_setWind_0 : decode cX6_setWind 0 = .ok (.iload_n 1, 1) := by decide +kernel
theorem dX6_setWind_1 : decode cX6_setWind 1 = .ok (.invokestatic 100, 3) := by decide +kernel
theorem dX6_setWind_4 : decode cX6_setWind 4 = .ok (.ifCond .ne 5, 3) := by decide +kernel
theorem dX6_setWind_7 : decode cX6_setWind 7 = .ok (.iconst (-1), 1) := by decide +kernel
theorem dX6_setWind_8 : decode cX6_setWind 8 = .ok (.ireturn, 1) := by decide +kernel
theorem dX6_setWind_9 : decode cX6_setWind 9 = .ok (.iload_n 2, 1) := by decide +kernel
theorem dX6_setWind_10 : decode cX6_setWind 10 = .ok (.invokestatic 103, 3) := by decide +kernel
theorem dX6_setWind_13 : decode cX6_setWind 13 = .ok (.ifCond .ne 6, 3) := by decide +kernel
theorem dX6_setWind_16 : decode cX6_setWind 16 = .ok (.bipush (-2), 2) := by decide +kernel
theorem dX6_setWind_18 : decode cX6_setWind 18 = .ok (.ireturn, 1) := by decide +kernel
theorem dX6_setWind_19 : decode cX6_setWind 19 = .ok (.aload_n 0, 1) := by decide +kernel
theorem dX6_setWind_20 : decode cX6_setWind 20 = .ok (.iload_n 1, 1) := by decide +kernel
theorem dX6_setWind_21 : decode cX6_setWind 21 = .ok (.invokevirtual 75, 3) := by decide +kernel
theorem dX6_setWind_24 : decode cX6_setWind 24 = .ok (.ifCond .eq 6, 3) := by decide +kernel
theorem dX6_setWind_27 : decode cX6_setWind 27 = .ok (.bipush (-4), 2) := by decide +kernel
theorem dX6_setWind_29 : decode cX6_setWind 29 = .ok (.ireturn, 1) := by decide +kernel
theorem dX6_setWind_30 : decode cX6_setWind 30 = .ok (.aload_n 0, 1) := by decide +kernel
theorem dX6_setWind_31 : decode cX6_setWind 31 = .ok (.getfield 18, 3) := by decide +kernel
theorem dX6_setWind_34 : decode cX6_setWind 34 = .ok (.iload_n 1, 1) := by decide +kernel
theorem dX6_setWind_35 : decode cX6_setWind 35 = .ok (.invokestatic 86, 3) := by decide +kernel
theorem dX6_setWind_38 : decode cX6_setWind 38 = .ok (.istore_n 3, 1) := by decide +kernel
theorem dX6_setWind_39 : decode cX6_setWind 39 = .ok (.iload_n 3, 1) := by decide +kernel
theorem dX6_setWind_40 : decode cX6_setWind 40 = .ok (.iload_n 2, 1) := by decide +kernel
theorem dX6_setWind_41 : decode cX6_setWind 41 = .ok (.if_icmp .ne 6, 3) := by decide +kernel
theorem dX6_setWind_44 : decode cX6_setWind 44 = .ok (.bipush (-5), 2) := by decide +kernel
theorem dX6_setWind_46 : decode cX6_setWind 46 = .ok (.ireturn, 1) := by decide +kernel
theorem dX6_setWind_47 : decode cX6_setWind 47 = .ok (.aload_n 0, 1) := by decide +kernel
theorem dX6_setWind_48 : decode cX6_setWind 48 = .ok (.getfield 18, 3) := by decide +kernel
theorem dX6_setWind_51 : decode cX6_setWind 51 = .ok (.iload_n 1, 1) := by decide +kernel
theorem dX6_setWind_52 : decode cX6_setWind 52 = .ok (.iload_n 2, 1) := by decide +kernel
theorem dX6_setWind_53 : decode cX6_setWind 53 = .ok (.invokestatic 106, 3) := by decide +kernel
theorem dX6_setWind_56 : decode cX6_setWind 56 = .ok (.iload_n 3, 1) := by decide +kernel
theorem dX6_setWind_57 : decode cX6_setWind 57 = .ok (.ireturn, 1) := by decide +kernel
theorem dX6_addCoins_0 : decode cX6_addCoins 0 = .ok (.iload_n 1, 1) := by decide +kernel
theorem dX6_addCoins_1 : decode cX6_addCoins 1 = .ok (.invokestatic 110, 3) := by decide +kernel
theorem dX6_addCoins_4 : decode cX6_addCoins 4 = .ok (.ifCond .ne 5, 3) := by decide +kernel
theorem dX6_addCoins_7 : decode cX6_addCoins 7 = .ok (.iconst (-1), 1) := by decide +kernel
theorem dX6_addCoins_8 : decode cX6_addCoins 8 = .ok (.ireturn, 1) := by decide +kernel
theorem dX6_addCoins_9 : decode cX6_addCoins 9 = .ok (.iload_n 2, 1) := by decide +kernel
theorem dX6_addCoins_10 : decode cX6_addCoins 10 = .ok (.iconst 1, 1) := by decide +kernel
theorem dX6_addCoins_11 : decode cX6_addCoins 11 = .ok (.if_icmp .lt 10, 3) := by decide +kernel
theorem dX6_addCoins_14 : decode cX6_addCoins 14 = .ok (.iload_n 2, 1) := by decide +kernel
theorem dX6_addCoins_15 : decode cX6_addCoins 15 = .ok (.sipush 999, 3) := by decide +kernel
theorem dX6_addCoins_18 : decode cX6_addCoins 18 = .ok (.if_icmp .le 6, 3) := by decide +kernel
theorem dX6_addCoins_21 : decode cX6_addCoins 21 = .ok (.bipush (-2), 2) := by decide +kernel
theorem dX6_addCoins_23 : decode cX6_addCoins 23 = .ok (.ireturn, 1) := by decide +kernel
theorem dX6_addCoins_24 : decode cX6_addCoins 24 = .ok (.aload_n 0, 1) := by decide +kernel
theorem dX6_addCoins_25 : decode cX6_addCoins 25 = .ok (.getfield 42, 3) := by decide +kernel
theorem dX6_addCoins_28 : decode cX6_addCoins 28 = .ok (.getfield 93, 3) := by decide +kernel
theorem dX6_addCoins_31 : decode cX6_addCoins 31 = .ok (.iload_n 1, 1) := by decide +kernel
theorem dX6_addCoins_32 : decode cX6_addCoins 32 = .ok (.invokestatic 86, 3) := by decide +kernel
theorem dX6_addCoins_35 : decode cX6_addCoins 35 = .ok (.iload_n 2, 1) := by decide +kernel
theorem dX6_addCoins_36 : decode cX6_addCoins 36 = .ok (.iadd, 1) := by decide +kernel
theorem dX6_addCoins_37 : decode cX6_addCoins 37 = .ok (.sipush 9999, 3) := by decide +kernel
theorem dX6_addCoins_40 : decode cX6_addCoins 40 = .ok (.if_icmp .le 6, 3) := by decide +kernel
theorem dX6_addCoins_43 : decode cX6_addCoins 43 = .ok (.bipush (-3), 2) := by decide +kernel
theorem dX6_addCoins_45 : decode cX6_addCoins 45 = .ok (.ireturn, 1) := by decide +kernel
theorem dX6_addCoins_46 : decode cX6_addCoins 46 = .ok (.aload_n 0, 1) := by decide +kernel
theorem dX6_addCoins_47 : decode cX6_addCoins 47 = .ok (.getfield 42, 3) := by decide +kernel
theorem dX6_addCoins_50 : decode cX6_addCoins 50 = .ok (.getfield 93, 3) := by decide +kernel
theorem dX6_addCoins_53 : decode cX6_addCoins 53 = .ok (.iload_n 1, 1) := by decide +kernel
theorem dX6_addCoins_54 : decode cX6_addCoins 54 = .ok (.iload_n 2, 1) := by decide +kernel
theorem dX6_addCoins_55 : decode cX6_addCoins 55 = .ok (.invokestatic 113, 3) := by decide +kernel
theorem dX6_addCoins_58 : decode cX6_addCoins 58 = .ok (.aload_n 0, 1) := by decide +kernel
theorem dX6_addCoins_59 : decode cX6_addCoins 59 = .ok (.getfield 49, 3) := by decide +kernel
theorem dX6_addCoins_62 : decode cX6_addCoins 62 = .ok (.dup, 1) := by decide +kernel
theorem dX6_addCoins_63 : decode cX6_addCoins 63 = .ok (.getfield 116, 3) := by decide +kernel
theorem dX6_addCoins_66 : decode cX6_addCoins 66 = .ok (.iload_n 2, 1) := by decide +kernel
theorem dX6_addCoins_67 : decode cX6_addCoins 67 = .ok (.iadd, 1) := by decide +kernel
theorem dX6_addCoins_68 : decode cX6_addCoins 68 = .ok (.putfield 116, 3) := by decide +kernel
theorem dX6_addCoins_71 : decode cX6_addCoins 71 = .ok (.aload_n 0, 1) := by decide +kernel
theorem dX6_addCoins_72 : decode cX6_addCoins 72 = .ok (.getfield 42, 3) := by decide +kernel
theorem dX6_addCoins_75 : decode cX6_addCoins 75 = .ok (.getfield 93, 3) := by decide +kernel
theorem dX6_addCoins_78 : decode cX6_addCoins 78 = .ok (.iload_n 1, 1) := by decide +kernel
theorem dX6_addCoins_79 : decode cX6_addCoins 79 = .ok (.invokestatic 86, 3) := by decide +kernel
theorem dX6_addCoins_82 : decode cX6_addCoins 82 = .ok (.ireturn, 1) := by decide +kernel
theorem dX6_bidError_0 : decode cX6_bidError 0 = .ok (.iload_n 1, 1) := by decide +kernel
theorem dX6_bidError_1 : decode cX6_bidError 1 = .ok (.invokestatic 110, 3) := by decide +kernel
theorem dX6_bidError_4 : decode cX6_bidError 4 = .ok (.ifCond .eq 11, 3) := by decide +kernel
theorem dX6_bidError_7 : decode cX6_bidError 7 = .ok (.iload_n 2, 1) := by decide +kernel
theorem dX6_bidError_8 : decode cX6_bidError 8 = .ok (.iload_n 3, 1) := by decide +kernel
theorem dX6_bidError_9 : decode cX6_bidError 9 = .ok (.invokestatic 119, 3) := by decide +kernel
theorem dX6_bidError_12 : decode cX6_bidError 12 = .ok (.ifCond .ne 5, 3) := by decide +kernel
theorem dX6_bidError_15 : decode cX6_bidError 15 = .ok (.iconst (-1), 1) := by decide +kernel
theorem dX6_bidError_16 : decode cX6_bidError 16 = .ok (.ireturn, 1) := by decide +kernel
theorem dX6_bidError_17 : decode cX6_bidError 17 = .ok (.iload_n 2, 1) := by decide +kernel
theorem dX6_bidError_18 : decode cX6_bidError 18 = .ok (.iload 4, 2) := by decide +kernel
theorem dX6_bidError_20 : decode cX6_bidError 20 = .ok (.invokestatic 123, 3) := by decide +kernel
theorem dX6_bidError_23 : decode cX6_bidError 23 = .ok (.ifCond .eq 17, 3) := by decide +kernel
theorem dX6_bidError_26 : decode cX6_bidError 26 = .ok (.iload 5, 2) := by decide +kernel
theorem dX6_bidError_28 : decode cX6_bidError 28 = .ok (.iconst 1, 1) := by decide +kernel
theorem dX6_bidError_29 : decode cX6_bidError 29 = .ok (.if_icmp .lt 11, 3) := by decide +kernel
theorem dX6_bidError_32 : decode cX6_bidError 32 = .ok (.iload 5, 2) := by decide +kernel
theorem dX6_bidError_34 : decode cX6_bidError 34 = .ok (.sipush 999, 3) := by decide +kernel
theorem dX6_bidError_37 : decode cX6_bidError 37 = .ok (.if_icmp .le 6, 3) := by decide +kernel
theorem dX6_bidError_40 : decode cX6_bidError 40 = .ok (.bipush (-2), 2) := by decide +kernel
theorem dX6_bidError_42 : decode cX6_bidError 42 = .ok (.ireturn, 1) := by decide +kernel
theorem dX6_bidError_43 : decode cX6_bidError 43 = .ok (.aload_n 0, 1) := by decide +kernel
theorem dX6_bidError_44 : decode cX6_bidError 44 = .ok (.iload_n 2, 1) := by decide +kernel
theorem dX6_bidError_45 : decode cX6_bidError 45 = .ok (.iload_n 3, 1) := by decide +kernel
theorem dX6_bidError_46 : decode cX6_bidError 46 = .ok (.invokevirtual 126, 3) := by decide +kernel
theorem dX6_bidError_49 : decode cX6_bidError 49 = .ok (.ifCond .eq 19, 3) := by decide +kernel
theorem dX6_bidError_52 : decode cX6_bidError 52 = .ok (.aload_n 0, 1) := by decide +kernel
theorem dX6_bidError_53 : decode cX6_bidError 53 = .ok (.getfield 28, 3) := by decide +kernel
theorem dX6_bidError_56 : decode cX6_bidError 56 = .ok (.iload_n 1, 1) := by decide +kernel
theorem dX6_bidError_57 : decode cX6_bidError 57 = .ok (.iload_n 2, 1) := by decide +kernel
theorem dX6_bidError_58 : decode cX6_bidError 58 = .ok (.iload_n 3, 1) := by decide +kernel
theorem dX6_bidError_59 : decode cX6_bidError 59 = .ok (.invokestatic 79, 3) := by decide +kernel
theorem dX6_bidError_62 : decode cX6_bidError 62 = .ok (.invokevirtual 129, 3) := by decide +kernel
theorem dX6_bidError_65 : decode cX6_bidError 65 = .ok (.ifCond .le 6, 3) := by decide +kernel
theorem dX6_bidError_68 : decode cX6_bidError 68 = .ok (.bipush (-4), 2) := by decide +kernel
theorem dX6_bidError_70 : decode cX6_bidError 70 = .ok (.ireturn, 1) := by decide +kernel
theorem dX6_bidError_71 : decode cX6_bidError 71 = .ok (.aload_n 0, 1) := by decide +kernel
theorem dX6_bidError_72 : decode cX6_bidError 72 = .ok (.iload_n 1, 1) := by decide +kernel
theorem dX6_bidError_73 : decode cX6_bidError 73 = .ok (.invokevirtual 132, 3) := by decide +kernel
theorem dX6_bidError_76 : decode cX6_bidError 76 = .ok (.iload 5, 2) := by decide +kernel
theorem dX6_bidError_78 : decode cX6_bidError 78 = .ok (.if_icmp .ge 6, 3) := by decide +kernel
theorem dX6_bidError_81 : decode cX6_bidError 81 = .ok (.bipush (-6), 2) := by decide +kernel
theorem dX6_bidError_83 : decode cX6_bidError 83 = .ok (.ireturn, 1) := by decide +kernel
theorem dX6_bidError_84 : decode cX6_bidError 84 = .ok (.aload_n 0, 1) := by decide +kernel
theorem dX6_bidError_85 : decode cX6_bidError 85 = .ok (.getfield 28, 3) := by decide +kernel
theorem dX6_bidError_88 : decode cX6_bidError 88 = .ok (.invokevirtual 135, 3) := by decide +kernel
theorem dX6_bidError_91 : decode cX6_bidError 91 = .ok (.bipush 60, 2) := by decide +kernel
theorem dX6_bidError_93 : decode cX6_bidError 93 = .ok (.if_icmp .ge 7, 3) := by decide +kernel
theorem dX6_bidError_96 : decode cX6_bidError 96 = .ok (.iconst 0, 1) := by decide +kernel
theorem dX6_bidError_97 : decode cX6_bidError 97 = .ok (.goto 5, 3) := by decide +kernel
theorem dX6_bidError_100 : decode cX6_bidError 100 = .ok (.bipush (-3), 2) := by decide +kernel
theorem dX6_bidError_102 : decode cX6_bidError 102 = .ok (.ireturn, 1) := by decide +kernel
theorem dX6_placeBid_0 : decode cX6_placeBid 0 = .ok (.aload_n 0, 1) := by decide +kernel
theorem dX6_placeBid_1 : decode cX6_placeBid 1 = .ok (.iload_n 1, 1) := by decide +kernel
theorem dX6_placeBid_2 : decode cX6_placeBid 2 = .ok (.iload_n 2, 1) := by decide +kernel
theorem dX6_placeBid_3 : decode cX6_placeBid 3 = .ok (.iload_n 3, 1) := by decide +kernel
theorem dX6_placeBid_4 : decode cX6_placeBid 4 = .ok (.iload 4, 2) := by decide +kernel
theorem dX6_placeBid_6 : decode cX6_placeBid 6 = .ok (.iload 5, 2) := by decide +kernel
theorem dX6_placeBid_8 : decode cX6_placeBid 8 = .ok (.invokevirtual 139, 3) := by decide +kernel
theorem dX6_placeBid_11 : decode cX6_placeBid 11 = .ok (.istore 6, 2) := by decide +kernel
theorem dX6_placeBid_13 : decode cX6_placeBid 13 = .ok (.iload 6, 2) := by decide +kernel
theorem dX6_placeBid_15 : decode cX6_placeBid 15 = .ok (.ifCond .ge 6, 3) := by decide +kernel
theorem dX6_placeBid_18 : decode cX6_placeBid 18 = .ok (.iload 6, 2) := by decide +kernel
theorem dX6_placeBid_20 : decode cX6_placeBid 20 = .ok (.ireturn, 1) := by decide +kernel
theorem dX6_placeBid_21 : decode cX6_placeBid 21 = .ok (.aload_n 0, 1) := by decide +kernel
theorem dX6_placeBid_22 : decode cX6_placeBid 22 = .ok (.getfield 28, 3) := by decide +kernel
theorem dX6_placeBid_25 : decode cX6_placeBid 25 = .ok (.iload_n 1, 1) := by decide +kernel
theorem dX6_placeBid_26 : decode cX6_placeBid 26 = .ok (.iload_n 2, 1) := by decide +kernel
theorem dX6_placeBid_27 : decode cX6_placeBid 27 = .ok (.iload_n 3, 1) := by decide +kernel
theorem dX6_placeBid_28 : decode cX6_placeBid 28 = .ok (.invokestatic 79, 3) := by decide +kernel
theorem dX6_placeBid_31 : decode cX6_placeBid 31 = .ok (.iload 4, 2) := by decide +kernel
theorem dX6_placeBid_33 : decode cX6_placeBid 33 = .ok (.iload 5, 2) := by decide +kernel
theorem dX6_placeBid_35 : decode cX6_placeBid 35 = .ok (.invokevirtual 143, 3) := by decide +kernel
theorem dX6_placeBid_38 : decode cX6_placeBid 38 = .ok (.aload_n 0, 1) := by decide +kernel
theorem dX6_placeBid_39 : decode cX6_placeBid 39 = .ok (.getfield 28, 3) := by decide +kernel
theorem dX6_placeBid_42 : decode cX6_placeBid 42 = .ok (.iload_n 2, 1) := by decide +kernel
theorem dX6_placeBid_43 : decode cX6_placeBid 43 = .ok (.iload_n 3, 1) := by decide +kernel
theorem dX6_placeBid_44 : decode cX6_placeBid 44 = .ok (.invokestatic 79, 3) := by decide +kernel
theorem dX6_placeBid_47 : decode cX6_placeBid 47 = .ok (.invokevirtual 147, 3) := by decide +kernel
theorem dX6_placeBid_50 : decode cX6_placeBid 50 = .ok (.ireturn, 1) := by decide +kernel
theorem dX6_priceOf_0 : decode cX6_priceOf 0 = .ok (.aload_n 0, 1) := by decide +kernel
theorem dX6_priceOf_1 : decode cX6_priceOf 1 = .ok (.iload_n 2, 1) := by decide +kernel
theorem dX6_priceOf_2 : decode cX6_priceOf 2 = .ok (.iload_n 3, 1) := by decide +kernel
theorem dX6_priceOf_3 : decode cX6_priceOf 3 = .ok (.invokevirtual 150, 3) := by decide +kernel
theorem dX6_priceOf_6 : decode cX6_priceOf 6 = .ok (.istore 6, 2) := by decide +kernel
theorem dX6_priceOf_8 : decode cX6_priceOf 8 = .ok (.iload 4, 2) := by decide +kernel
theorem dX6_priceOf_10 : decode cX6_priceOf 10 = .ok (.iload 6, 2) := by decide +kernel
theorem dX6_priceOf_12 : decode cX6_priceOf 12 = .ok (.if_icmp .le 6, 3) := by decide +kernel
theorem dX6_priceOf_15 : decode cX6_priceOf 15 = .ok (.bipush (-5), 2) := by decide +kernel
theorem dX6_priceOf_17 : decode cX6_priceOf 17 = .ok (.ireturn, 1) := by decide +kernel
theorem dX6_priceOf_18 : decode cX6_priceOf 18 = .ok (.iload_n 2, 1) := by decide +kernel
theorem dX6_priceOf_19 : decode cX6_priceOf 19 = .ok (.iload_n 3, 1) := by decide +kernel
theorem dX6_priceOf_20 : decode cX6_priceOf 20 = .ok (.invokestatic 79, 3) := by decide +kernel
theorem dX6_priceOf_23 : decode cX6_priceOf 23 = .ok (.istore 7, 2) := by decide +kernel
theorem dX6_priceOf_25 : decode cX6_priceOf 25 = .ok (.aload_n 0, 1) := by decide +kernel
theorem dX6_priceOf_26 : decode cX6_priceOf 26 = .ok (.getfield 28, 3) := by decide +kernel
theorem dX6_priceOf_29 : decode cX6_priceOf 29 = .ok (.iload 7, 2) := by decide +kernel
theorem dX6_priceOf_31 : decode cX6_priceOf 31 = .ok (.iload 6, 2) := by decide +kernel
theorem dX6_priceOf_33 : decode cX6_priceOf 33 = .ok (.bipush (-5), 2) := by decide +kernel
theorem dX6_priceOf_35 : decode cX6_priceOf 35 = .ok (.invokevirtual 153, 3) := by decide +kernel
theorem dX6_priceOf_38 : decode cX6_priceOf 38 = .ok (.istore 8, 2) := by decide +kernel
theorem dX6_priceOf_40 : decode cX6_priceOf 40 = .ok (.iload_n 1, 1) := by decide +kernel
theorem dX6_priceOf_41 : decode cX6_priceOf 41 = .ok (.aload_n 0, 1) := by decide +kernel
theorem dX6_priceOf_42 : decode cX6_priceOf 42 = .ok (.getfield 28, 3) := by decide +kernel
theorem dX6_priceOf_45 : decode cX6_priceOf 45 = .ok (.iload 7, 2) := by decide +kernel
theorem dX6_priceOf_47 : decode cX6_priceOf 47 = .ok (.iload 6, 2) := by decide +kernel
theorem dX6_priceOf_49 : decode cX6_priceOf 49 = .ok (.invokevirtual 157, 3) := by decide +kernel
theorem dX6_priceOf_52 : decode cX6_priceOf 52 = .ok (.if_icmp .ge 7, 3) := by decide +kernel
theorem dX6_priceOf_55 : decode cX6_priceOf 55 = .ok (.iconst 1, 1) := by decide +kernel
theorem dX6_priceOf_56 : decode cX6_priceOf 56 = .ok (.goto 4, 3) := by decide +kernel
theorem dX6_priceOf_59 : decode cX6_priceOf 59 = .ok (.iconst 0, 1) := by decide +kernel
theorem dX6_priceOf_60 : decode cX6_priceOf 60 = .ok (.istore 9, 2) := by decide +kernel
theorem dX6_priceOf_62 : decode cX6_priceOf 62 = .ok (.iload 5, 2) := by decide +kernel
theorem dX6_priceOf_64 : decode cX6_priceOf 64 = .ok (.iload 8, 2) := by decide +kernel
theorem dX6_priceOf_66 : decode cX6_priceOf 66 = .ok (.if_icmp .gt 15, 3) := by decide +kernel
theorem dX6_priceOf_69 : decode cX6_priceOf 69 = .ok (.iload 5, 2) := by decide +kernel
theorem dX6_priceOf_71 : decode cX6_priceOf 71 = .ok (.iload 8, 2) := by decide +kernel
theorem dX6_priceOf_73 : decode cX6_priceOf 73 = .ok (.if_icmp .ne 13, 3) := by decide +kernel
theorem dX6_priceOf_76 : decode cX6_priceOf 76 = .ok (.iload 9, 2) := by decide +kernel
theorem dX6_priceOf_78 : decode cX6_priceOf 78 = .ok (.ifCond .eq 8, 3) := by decide +kernel
theorem dX6_priceOf_81 : decode cX6_priceOf 81 = .ok (.iload 8, 2) := by decide +kernel
theorem dX6_priceOf_83 : decode cX6_priceOf 83 = .ok (.goto 5, 3) := by decide +kernel
theorem dX6_priceOf_86 : decode cX6_priceOf 86 = .ok (.bipush (-5), 2) := by decide +kernel
theorem dX6_priceOf_88 : decode cX6_priceOf 88 = .ok (.ireturn, 1) := by decide +kernel
theorem dX6_removeBid_0 : decode cX6_removeBid 0 = .ok (.iload_n 1, 1) := by decide +kernel
theorem dX6_removeBid_1 : decode cX6_removeBid 1 = .ok (.invokestatic 110, 3) := by decide +kernel
theorem dX6_removeBid_4 : decode cX6_removeBid 4 = .ok (.ifCond .eq 11, 3) := by decide +kernel
theorem dX6_removeBid_7 : decode cX6_removeBid 7 = .ok (.iload_n 2, 1) := by decide +kernel
theorem dX6_removeBid_8 : decode cX6_removeBid 8 = .ok (.iload_n 3, 1) := by decide +kernel
theorem dX6_removeBid_9 : decode cX6_removeBid 9 = .ok (.invokestatic 119, 3) := by decide +kernel
theorem dX6_removeBid_12 : decode cX6_removeBid 12 = .ok (.ifCond .ne 5, 3) := by decide +kernel
theorem dX6_removeBid_15 : decode cX6_removeBid 15 = .ok (.iconst (-1), 1) := by decide +kernel
theorem dX6_removeBid_16 : decode cX6_removeBid 16 = .ok (.ireturn, 1) := by decide +kernel
theorem dX6_removeBid_17 : decode cX6_removeBid 17 = .ok (.aload_n 0, 1) := by decide +kernel
theorem dX6_removeBid_18 : decode cX6_removeBid 18 = .ok (.getfield 28, 3) := by decide +kernel
theorem dX6_removeBid_21 : decode cX6_removeBid 21 = .ok (.iload_n 1, 1) := by decide +kernel
theorem dX6_removeBid_22 : decode cX6_removeBid 22 = .ok (.iload_n 2, 1) := by decide +kernel
theorem dX6_removeBid_23 : decode cX6_removeBid 23 = .ok (.iload_n 3, 1) := by decide +kernel
theorem dX6_removeBid_24 : decode cX6_removeBid 24 = .ok (.invokestatic 79, 3) := by decide +kernel
theorem dX6_removeBid_27 : decode cX6_removeBid 27 = .ok (.invokevirtual 129, 3) := by decide +kernel
theorem dX6_removeBid_30 : decode cX6_removeBid 30 = .ok (.istore 4, 2) := by decide +kernel
theorem dX6_removeBid_32 : decode cX6_removeBid 32 = .ok (.iload 4, 2) := by decide +kernel
theorem dX6_removeBid_34 : decode cX6_removeBid 34 = .ok (.ifCond .ne 5, 3) := by decide +kernel
theorem dX6_removeBid_37 : decode cX6_removeBid 37 = .ok (.iconst (-1), 1) := by decide +kernel
theorem dX6_removeBid_38 : decode cX6_removeBid 38 = .ok (.ireturn, 1) := by decide +kernel
theorem dX6_removeBid_39 : decode cX6_removeBid 39 = .ok (.aload_n 0, 1) := by decide +kernel
theorem dX6_removeBid_40 : decode cX6_removeBid 40 = .ok (.getfield 28, 3) := by decide +kernel
theorem dX6_removeBid_43 : decode cX6_removeBid 43 = .ok (.iload_n 1, 1) := by decide +kernel
theorem dX6_removeBid_44 : decode cX6_removeBid 44 = .ok (.iload_n 2, 1) := by decide +kernel
theorem dX6_removeBid_45 : decode cX6_removeBid 45 = .ok (.iload_n 3, 1) := by decide +kernel
theorem dX6_removeBid_46 : decode cX6_removeBid 46 = .ok (.invokestatic 79, 3) := by decide +kernel
theorem dX6_removeBid_49 : decode cX6_removeBid 49 = .ok (.invokevirtual 160, 3) := by decide +kernel
theorem dX6_removeBid_52 : decode cX6_removeBid 52 = .ok (.iload 4, 2) := by decide +kernel
theorem dX6_removeBid_54 : decode cX6_removeBid 54 = .ok (.ireturn, 1) := by decide +kernel
theorem dX6_awardEarly_0 : decode cX6_awardEarly 0 = .ok (.iload_n 1, 1) := by decide +kernel
theorem dX6_awardEarly_1 : decode cX6_awardEarly 1 = .ok (.iload_n 2, 1) := by decide +kernel
theorem dX6_awardEarly_2 : decode cX6_awardEarly 2 = .ok (.invokestatic 119, 3) := by decide +kernel
theorem dX6_awardEarly_5 : decode cX6_awardEarly 5 = .ok (.ifCond .ne 5, 3) := by decide +kernel
theorem dX6_awardEarly_8 : decode cX6_awardEarly 8 = .ok (.iconst (-1), 1) := by decide +kernel
theorem dX6_awardEarly_9 : decode cX6_awardEarly 9 = .ok (.ireturn, 1) := by decide +kernel
theorem dX6_awardEarly_10 : decode cX6_awardEarly 10 = .ok (.aload_n 0, 1) := by decide +kernel
theorem dX6_awardEarly_11 : decode cX6_awardEarly 11 = .ok (.iload_n 1, 1) := by decide +kernel
theorem dX6_awardEarly_12 : decode cX6_awardEarly 12 = .ok (.iload_n 2, 1) := by decide +kernel
theorem dX6_awardEarly_13 : decode cX6_awardEarly 13 = .ok (.invokevirtual 126, 3) := by decide +kernel
theorem dX6_awardEarly_16 : decode cX6_awardEarly 16 = .ok (.ifCond .eq 12, 3) := by decide +kernel
theorem dX6_awardEarly_19 : decode cX6_awardEarly 19 = .ok (.aload_n 0, 1) := by decide +kernel
theorem dX6_awardEarly_20 : decode cX6_awardEarly 20 = .ok (.iload_n 1, 1) := by decide +kernel
theorem dX6_awardEarly_21 : decode cX6_awardEarly 21 = .ok (.iload_n 2, 1) := by decide +kernel
theorem dX6_awardEarly_22 : decode cX6_awardEarly 22 = .ok (.invokevirtual 164, 3) := by decide +kernel
theorem dX6_awardEarly_25 : decode cX6_awardEarly 25 = .ok (.goto 5, 3) := by decide +kernel
theorem dX6_awardEarly_28 : decode cX6_awardEarly 28 = .ok (.bipush (-4), 2) := by decide +kernel
theorem dX6_awardEarly_30 : decode cX6_awardEarly 30 = .ok (.ireturn, 1) := by decide +kernel
theorem dX6_awardOpen_0 : decode cX6_awardOpen 0 = .ok (.iload_n 1, 1) := by decide +kernel
theorem dX6_awardOpen_1 : decode cX6_awardOpen 1 = .ok (.iload_n 2, 1) := by decide +kernel
theorem dX6_awardOpen_2 : decode cX6_awardOpen 2 = .ok (.invokestatic 79, 3) := by decide +kernel
theorem dX6_awardOpen_5 : decode cX6_awardOpen 5 = .ok (.istore_n 3, 1) := by decide +kernel
theorem dX6_awardOpen_6 : decode cX6_awardOpen 6 = .ok (.aload_n 0, 1) := by decide +kernel
theorem dX6_awardOpen_7 : decode cX6_awardOpen 7 = .ok (.iload_n 1, 1) := by decide +kernel
theorem dX6_awardOpen_8 : decode cX6_awardOpen 8 = .ok (.iload_n 2, 1) := by decide +kernel
theorem dX6_awardOpen_9 : decode cX6_awardOpen 9 = .ok (.invokevirtual 150, 3) := by decide +kernel
theorem dX6_awardOpen_12 : decode cX6_awardOpen 12 = .ok (.istore 4, 2) := by decide +kernel
theorem dX6_awardOpen_14 : decode cX6_awardOpen 14 = .ok (.aload_n 0, 1) := by decide +kernel
theorem dX6_awardOpen_15 : decode cX6_awardOpen 15 = .ok (.getfield 28, 3) := by decide +kernel
theorem dX6_awardOpen_18 : decode cX6_awardOpen 18 = .ok (.iload_n 3, 1) := by decide +kernel
theorem dX6_awardOpen_19 : decode cX6_awardOpen 19 = .ok (.iload 4, 2) := by decide +kernel
theorem dX6_awardOpen_21 : decode cX6_awardOpen 21 = .ok (.invokevirtual 157, 3) := by decide +kernel
theorem dX6_awardOpen_24 : decode cX6_awardOpen 24 = .ok (.istore 5, 2) := by decide +kernel
theorem dX6_awardOpen_26 : decode cX6_awardOpen 26 = .ok (.iload 5, 2) := by decide +kernel
theorem dX6_awardOpen_28 : decode cX6_awardOpen 28 = .ok (.bipush (-5), 2) := by decide +kernel
theorem dX6_awardOpen_30 : decode cX6_awardOpen 30 = .ok (.if_icmp .ne 6, 3) := by decide +kernel
theorem dX6_awardOpen_33 : decode cX6_awardOpen 33 = .ok (.bipush (-5), 2) := by decide +kernel
theorem dX6_awardOpen_35 : decode cX6_awardOpen 35 = .ok (.ireturn, 1) := by decide +kernel
theorem dX6_awardOpen_36 : decode cX6_awardOpen 36 = .ok (.aload_n 0, 1) := by decide +kernel
theorem dX6_awardOpen_37 : decode cX6_awardOpen 37 = .ok (.getfield 28, 3) := by decide +kernel
theorem dX6_awardOpen_40 : decode cX6_awardOpen 40 = .ok (.iload_n 3, 1) := by decide +kernel
theorem dX6_awardOpen_41 : decode cX6_awardOpen 41 = .ok (.iload 4, 2) := by decide +kernel
theorem dX6_awardOpen_43 : decode cX6_awardOpen 43 = .ok (.iload 5, 2) := by decide +kernel
theorem dX6_awardOpen_45 : decode cX6_awardOpen 45 = .ok (.invokevirtual 153, 3) := by decide +kernel
theorem dX6_awardOpen_48 : decode cX6_awardOpen 48 = .ok (.istore 6, 2) := by decide +kernel
theorem dX6_awardOpen_50 : decode cX6_awardOpen 50 = .ok (.aload_n 0, 1) := by decide +kernel
theorem dX6_awardOpen_51 : decode cX6_awardOpen 51 = .ok (.getfield 35, 3) := by decide +kernel
theorem dX6_awardOpen_54 : decode cX6_awardOpen 54 = .ok (.iload_n 3, 1) := by decide +kernel
theorem dX6_awardOpen_55 : decode cX6_awardOpen 55 = .ok (.iload 5, 2) := by decide +kernel
theorem dX6_awardOpen_57 : decode cX6_awardOpen 57 = .ok (.aload_n 0, 1) := by decide +kernel
theorem dX6_awardOpen_58 : decode cX6_awardOpen 58 = .ok (.getfield 28, 3) := by decide +kernel
theorem dX6_awardOpen_61 : decode cX6_awardOpen 61 = .ok (.iload 5, 2) := by decide +kernel
theorem dX6_awardOpen_63 : decode cX6_awardOpen 63 = .ok (.iload_n 3, 1) := by decide +kernel
theorem dX6_awardOpen_64 : decode cX6_awardOpen 64 = .ok (.invokevirtual 167, 3) := by decide +kernel
theorem dX6_awardOpen_67 : decode cX6_awardOpen 67 = .ok (.invokevirtual 170, 3) := by decide +kernel
theorem dX6_awardOpen_70 : decode cX6_awardOpen 70 = .ok (.aload_n 0, 1) := by decide +kernel
theorem dX6_awardOpen_71 : decode cX6_awardOpen 71 = .ok (.getfield 35, 3) := by decide +kernel
theorem dX6_awardOpen_74 : decode cX6_awardOpen 74 = .ok (.getfield 174, 3) := by decide +kernel
theorem dX6_awardOpen_77 : decode cX6_awardOpen 77 = .ok (.iload_n 3, 1) := by decide +kernel
theorem dX6_awardOpen_78 : decode cX6_awardOpen 78 = .ok (.iload 6, 2) := by decide +kernel
theorem dX6_awardOpen_80 : decode cX6_awardOpen 80 = .ok (.invokestatic 106, 3) := by decide +kernel
theorem dX6_awardOpen_83 : decode cX6_awardOpen 83 = .ok (.aload_n 0, 1) := by decide +kernel
theorem dX6_awardOpen_84 : decode cX6_awardOpen 84 = .ok (.getfield 42, 3) := by decide +kernel
theorem dX6_awardOpen_87 : decode cX6_awardOpen 87 = .ok (.iload 5, 2) := by decide +kernel
theorem dX6_awardOpen_89 : decode cX6_awardOpen 89 = .ok (.iload 6, 2) := by decide +kernel
theorem dX6_awardOpen_91 : decode cX6_awardOpen 91 = .ok (.invokevirtual 177, 3) := by decide +kernel
theorem dX6_awardOpen_94 : decode cX6_awardOpen 94 = .ok (.aload_n 0, 1) := by decide +kernel
theorem dX6_awardOpen_95 : decode cX6_awardOpen 95 = .ok (.getfield 49, 3) := by decide +kernel
theorem dX6_awardOpen_98 : decode cX6_awardOpen 98 = .ok (.dup, 1) := by decide +kernel
theorem dX6_awardOpen_99 : decode cX6_awardOpen 99 = .ok (.getfield 180, 3) := by decide +kernel
theorem dX6_awardOpen_102 : decode cX6_awardOpen 102 = .ok (.iload 6, 2) := by decide +kernel
theorem dX6_awardOpen_104 : decode cX6_awardOpen 104 = .ok (.iadd, 1) := by decide +kernel
theorem dX6_awardOpen_105 : decode cX6_awardOpen 105 = .ok (.putfield 180, 3) := by decide +kernel
theorem dX6_awardOpen_108 : decode cX6_awardOpen 108 = .ok (.aload_n 0, 1) := by decide +kernel
theorem dX6_awardOpen_109 : decode cX6_awardOpen 109 = .ok (.getfield 28, 3) := by decide +kernel
theorem dX6_awardOpen_112 : decode cX6_awardOpen 112 = .ok (.iload_n 3, 1) := by decide +kernel
theorem dX6_awardOpen_113 : decode cX6_awardOpen 113 = .ok (.invokevirtual 183, 3) := by decide +kernel
theorem dX6_awardOpen_116 : decode cX6_awardOpen 116 = .ok (.iload 5, 2) := by decide +kernel
theorem dX6_awardOpen_118 : decode cX6_awardOpen 118 = .ok (.ireturn, 1) := by decide +kernel
theorem dX6_sell_0 : decode cX6_sell 0 = .ok (.iload_n 1, 1) := by decide +kernel
theorem dX6_sell_1 : decode cX6_sell 1 = .ok (.iload_n 2, 1) := by decide +kernel
theorem dX6_sell_2 : decode cX6_sell 2 = .ok (.invokestatic 119, 3) := by decide +kernel
theorem dX6_sell_5 : decode cX6_sell 5 = .ok (.ifCond .eq 25, 3) := by decide +kernel
theorem dX6_sell_8 : decode cX6_sell 8 = .ok (.iload_n 3, 1) := by decide +kernel
theorem dX6_sell_9 : decode cX6_sell 9 = .ok (.invokestatic 110, 3) := by decide +kernel
theorem dX6_sell_12 : decode cX6_sell 12 = .ok (.ifCond .eq 18, 3) := by decide +kernel
theorem dX6_sell_15 : decode cX6_sell 15 = .ok (.aload_n 0, 1) := by decide +kernel
theorem dX6_sell_16 : decode cX6_sell 16 = .ok (.getfield 35, 3) := by decide +kernel
theorem dX6_sell_19 : decode cX6_sell 19 = .ok (.iload_n 1, 1) := by decide +kernel
theorem dX6_sell_20 : decode cX6_sell 20 = .ok (.iload_n 2, 1) := by decide +kernel
theorem dX6_sell_21 : decode cX6_sell 21 = .ok (.invokestatic 79, 3) := by decide +kernel
theorem dX6_sell_24 : decode cX6_sell 24 = .ok (.invokevirtual 83, 3) := by decide +kernel
theorem dX6_sell_27 : decode cX6_sell 27 = .ok (.ifCond .ne 5, 3) := by decide +kernel
theorem dX6_sell_30 : decode cX6_sell 30 = .ok (.iconst (-1), 1) := by decide +kernel
theorem dX6_sell_31 : decode cX6_sell 31 = .ok (.ireturn, 1) := by decide +kernel
theorem dX6_sell_32 : decode cX6_sell 32 = .ok (.iload_n 1, 1) := by decide +kernel
theorem dX6_sell_33 : decode cX6_sell 33 = .ok (.iload 4, 2) := by decide +kernel
theorem dX6_sell_35 : decode cX6_sell 35 = .ok (.invokestatic 123, 3) := by decide +kernel
theorem dX6_sell_38 : decode cX6_sell 38 = .ok (.ifCond .eq 16, 3) := by decide +kernel
theorem dX6_sell_41 : decode cX6_sell 41 = .ok (.iload 5, 2) := by decide +kernel
theorem dX6_sell_43 : decode cX6_sell 43 = .ok (.ifCond .lt 11, 3) := by decide +kernel
theorem dX6_sell_46 : decode cX6_sell 46 = .ok (.iload 5, 2) := by decide +kernel
theorem dX6_sell_48 : decode cX6_sell 48 = .ok (.sipush 999, 3) := by decide +kernel
theorem dX6_sell_51 : decode cX6_sell 51 = .ok (.if_icmp .le 6, 3) := by decide +kernel
theorem dX6_sell_54 : decode cX6_sell 54 = .ok (.bipush (-2), 2) := by decide +kernel
theorem dX6_sell_56 : decode cX6_sell 56 = .ok (.ireturn, 1) := by decide +kernel
theorem dX6_sell_57 : decode cX6_sell 57 = .ok (.aload_n 0, 1) := by decide +kernel
theorem dX6_sell_58 : decode cX6_sell 58 = .ok (.getfield 35, 3) := by decide +kernel
theorem dX6_sell_61 : decode cX6_sell 61 = .ok (.iload_n 1, 1) := by decide +kernel
theorem dX6_sell_62 : decode cX6_sell 62 = .ok (.iload_n 2, 1) := by decide +kernel
theorem dX6_sell_63 : decode cX6_sell 63 = .ok (.invokestatic 79, 3) := by decide +kernel
theorem dX6_sell_66 : decode cX6_sell 66 = .ok (.invokevirtual 187, 3) := by decide +kernel
theorem dX6_sell_69 : decode cX6_sell 69 = .ok (.istore 6, 2) := by decide +kernel
theorem dX6_sell_71 : decode cX6_sell 71 = .ok (.aload_n 0, 1) := by decide +kernel
theorem dX6_sell_72 : decode cX6_sell 72 = .ok (.iload_n 2, 1) := by decide +kernel
theorem dX6_sell_73 : decode cX6_sell 73 = .ok (.invokevirtual 75, 3) := by decide +kernel
theorem dX6_sell_76 : decode cX6_sell 76 = .ok (.ifCond .ne 9, 3) := by decide +kernel
theorem dX6_sell_79 : decode cX6_sell 79 = .ok (.iload 6, 2) := by decide +kernel
theorem dX6_sell_81 : decode cX6_sell 81 = .ok (.iload_n 3, 1) := by decide +kernel
theorem dX6_sell_82 : decode cX6_sell 82 = .ok (.if_icmp .ne 6, 3) := by decide +kernel
theorem dX6_sell_85 : decode cX6_sell 85 = .ok (.bipush (-4), 2) := by decide +kernel
theorem dX6_sell_87 : decode cX6_sell 87 = .ok (.ireturn, 1) := by decide +kernel
theorem dX6_sell_88 : decode cX6_sell 88 = .ok (.aload_n 0, 1) := by decide +kernel
theorem dX6_sell_89 : decode cX6_sell 89 = .ok (.iload_n 3, 1) := by decide +kernel
theorem dX6_sell_90 : decode cX6_sell 90 = .ok (.invokevirtual 132, 3) := by decide +kernel
theorem dX6_sell_93 : decode cX6_sell 93 = .ok (.iload 5, 2) := by decide +kernel
theorem dX6_sell_95 : decode cX6_sell 95 = .ok (.if_icmp .ge 6, 3) := by decide +kernel
theorem dX6_sell_98 : decode cX6_sell 98 = .ok (.bipush (-6), 2) := by decide +kernel
theorem dX6_sell_100 : decode cX6_sell 100 = .ok (.ireturn, 1) := by decide +kernel
theorem dX6_sell_101 : decode cX6_sell 101 = .ok (.aload_n 0, 1) := by decide +kernel
theorem dX6_sell_102 : decode cX6_sell 102 = .ok (.getfield 42, 3) := by decide +kernel
theorem dX6_sell_105 : decode cX6_sell 105 = .ok (.iload 6, 2) := by decide +kernel
theorem dX6_sell_107 : decode cX6_sell 107 = .ok (.iload 5, 2) := by decide +kernel
theorem dX6_sell_109 : decode cX6_sell 109 = .ok (.invokevirtual 190, 3) := by decide +kernel
theorem dX6_sell_112 : decode cX6_sell 112 = .ok (.aload_n 0, 1) := by decide +kernel
theorem dX6_sell_113 : decode cX6_sell 113 = .ok (.getfield 42, 3) := by decide +kernel
theorem dX6_sell_116 : decode cX6_sell 116 = .ok (.iload_n 3, 1) := by decide +kernel
theorem dX6_sell_117 : decode cX6_sell 117 = .ok (.iload 5, 2) := by decide +kernel
theorem dX6_sell_119 : decode cX6_sell 119 = .ok (.ineg, 1) := by decide +kernel
theorem dX6_sell_120 : decode cX6_sell 120 = .ok (.invokevirtual 190, 3) := by decide +kernel
theorem dX6_sell_123 : decode cX6_sell 123 = .ok (.aload_n 0, 1) := by decide +kernel
theorem dX6_sell_124 : decode cX6_sell 124 = .ok (.getfield 35, 3) := by decide +kernel
theorem dX6_sell_127 : decode cX6_sell 127 = .ok (.iload_n 1, 1) := by decide +kernel
theorem dX6_sell_128 : decode cX6_sell 128 = .ok (.iload_n 2, 1) := by decide +kernel
theorem dX6_sell_129 : decode cX6_sell 129 = .ok (.invokestatic 79, 3) := by decide +kernel
theorem dX6_sell_132 : decode cX6_sell 132 = .ok (.iload_n 3, 1) := by decide +kernel
theorem dX6_sell_133 : decode cX6_sell 133 = .ok (.iload 4, 2) := by decide +kernel
theorem dX6_sell_135 : decode cX6_sell 135 = .ok (.invokevirtual 170, 3) := by decide +kernel
theorem dX6_sell_138 : decode cX6_sell 138 = .ok (.aload_n 0, 1) := by decide +kernel
theorem dX6_sell_139 : decode cX6_sell 139 = .ok (.getfield 49, 3) := by decide +kernel
theorem dX6_sell_142 : decode cX6_sell 142 = .ok (.dup, 1) := by decide +kernel
theorem dX6_sell_143 : decode cX6_sell 143 = .ok (.getfield 193, 3) := by decide +kernel
theorem dX6_sell_146 : decode cX6_sell 146 = .ok (.iconst 1, 1) := by decide +kernel
theorem dX6_sell_147 : decode cX6_sell 147 = .ok (.iadd, 1) := by decide +kernel
theorem dX6_sell_148 : decode cX6_sell 148 = .ok (.putfield 193, 3) := by decide +kernel
theorem dX6_sell_151 : decode cX6_sell 151 = .ok (.aload_n 0, 1) := by decide +kernel
theorem dX6_sell_152 : decode cX6_sell 152 = .ok (.getfield 42, 3) := by decide +kernel
theorem dX6_sell_155 : decode cX6_sell 155 = .ok (.getfield 93, 3) := by decide +kernel
theorem dX6_sell_158 : decode cX6_sell 158 = .ok (.iload 6, 2) := by decide +kernel
theorem dX6_sell_160 : decode cX6_sell 160 = .ok (.invokestatic 86, 3) := by decide +kernel
theorem dX6_sell_163 : decode cX6_sell 163 = .ok (.ireturn, 1) := by decide +kernel
theorem dX6_endHour_0 : decode cX6_endHour 0 = .ok (.iload_n 1, 1) := by decide +kernel
theorem dX6_endHour_1 : decode cX6_endHour 1 = .ok (.invokestatic 103, 3) := by decide +kernel
theorem dX6_endHour_4 : decode cX6_endHour 4 = .ok (.ifCond .ne 6, 3) := by decide +kernel
theorem dX6_endHour_7 : decode cX6_endHour 7 = .ok (.bipush (-2), 2) := by decide +kernel
theorem dX6_endHour_9 : decode cX6_endHour 9 = .ok (.ireturn, 1) := by decide +kernel
theorem dX6_endHour_10 : decode cX6_endHour 10 = .ok (.aload_n 0, 1) := by decide +kernel
theorem dX6_endHour_11 : decode cX6_endHour 11 = .ok (.getfield 15, 3) := by decide +kernel
theorem dX6_endHour_14 : decode cX6_endHour 14 = .ok (.bipush 16, 2) := by decide +kernel
theorem dX6_endHour_16 : decode cX6_endHour 16 = .ok (.if_icmp .lt 6, 3) := by decide +kernel
theorem dX6_endHour_19 : decode cX6_endHour 19 = .ok (.bipush (-4), 2) := by decide +kernel
theorem dX6_endHour_21 : decode cX6_endHour 21 = .ok (.ireturn, 1) := by decide +kernel
theorem dX6_endHour_22 : decode cX6_endHour 22 = .ok (.iconst 0, 1) := by decide +kernel
theorem dX6_endHour_23 : decode cX6_endHour 23 = .ok (.istore_n 2, 1) := by decide +kernel
theorem dX6_endHour_24 : decode cX6_endHour 24 = .ok (.iload_n 2, 1) := by decide +kernel
theorem dX6_endHour_25 : decode cX6_endHour 25 = .ok (.iconst 3, 1) := by decide +kernel
theorem dX6_endHour_26 : decode cX6_endHour 26 = .ok (.if_icmp .ge 31, 3) := by decide +kernel
theorem dX6_endHour_29 : decode cX6_endHour 29 = .ok (.aload_n 0, 1) := by decide +kernel
theorem dX6_endHour_30 : decode cX6_endHour 30 = .ok (.iload_n 2, 1) := by decide +kernel
theorem dX6_endHour_31 : decode cX6_endHour 31 = .ok (.aload_n 0, 1) := by decide +kernel
theorem dX6_endHour_32 : decode cX6_endHour 32 = .ok (.getfield 15, 3) := by decide +kernel
theorem dX6_endHour_35 : decode cX6_endHour 35 = .ok (.invokevirtual 126, 3) := by decide +kernel
theorem dX6_endHour_38 : decode cX6_endHour 38 = .ok (.ifCond .eq 13, 3) := by decide +kernel
theorem dX6_endHour_41 : decode cX6_endHour 41 = .ok (.aload_n 0, 1) := by decide +kernel
theorem dX6_endHour_42 : decode cX6_endHour 42 = .ok (.iload_n 2, 1) := by decide +kernel
theorem dX6_endHour_43 : decode cX6_endHour 43 = .ok (.aload_n 0, 1) := by decide +kernel
theorem dX6_endHour_44 : decode cX6_endHour 44 = .ok (.getfield 15, 3) := by decide +kernel
theorem dX6_endHour_47 : decode cX6_endHour 47 = .ok (.invokevirtual 164, 3) := by decide +kernel
theorem dX6_endHour_50 : decode cX6_endHour 50 = .ok (.pop, 1) := by decide +kernel
theorem dX6_endHour_51 : decode cX6_endHour 51 = .ok (.iinc 2 1, 3) := by decide +kernel
theorem dX6_endHour_54 : decode cX6_endHour 54 = .ok (.goto (-30), 3) := by decide +kernel
theorem dX6_endHour_57 : decode cX6_endHour 57 = .ok (.iconst 0, 1) := by decide +kernel
theorem dX6_endHour_58 : decode cX6_endHour 58 = .ok (.istore_n 2, 1) := by decide +kernel
theorem dX6_endHour_59 : decode cX6_endHour 59 = .ok (.iconst 0, 1) := by decide +kernel
theorem dX6_endHour_60 : decode cX6_endHour 60 = .ok (.istore_n 3, 1) := by decide +kernel
theorem dX6_endHour_61 : decode cX6_endHour 61 = .ok (.iload_n 3, 1) := by decide +kernel
theorem dX6_endHour_62 : decode cX6_endHour 62 = .ok (.iconst 3, 1) := by decide +kernel
theorem dX6_endHour_63 : decode cX6_endHour 63 = .ok (.if_icmp .ge 26, 3) := by decide +kernel
theorem dX6_endHour_66 : decode cX6_endHour 66 = .ok (.iload_n 2, 1) := by decide +kernel
theorem dX6_endHour_67 : decode cX6_endHour 67 = .ok (.aload_n 0, 1) := by decide +kernel
theorem dX6_endHour_68 : decode cX6_endHour 68 = .ok (.iload_n 3, 1) := by decide +kernel
theorem dX6_endHour_69 : decode cX6_endHour 69 = .ok (.iload_n 1, 1) := by decide +kernel
theorem dX6_endHour_70 : decode cX6_endHour 70 = .ok (.invokevirtual 196, 3) := by decide +kernel
theorem dX6_endHour_73 : decode cX6_endHour 73 = .ok (.ifCond .eq 7, 3) := by decide +kernel
theorem dX6_endHour_76 : decode cX6_endHour 76 = .ok (.iconst 1, 1) := by decide +kernel
theorem dX6_endHour_77 : decode cX6_endHour 77 = .ok (.goto 4, 3) := by decide +kernel
theorem dX6_endHour_80 : decode cX6_endHour 80 = .ok (.iconst 0, 1) := by decide +kernel
theorem dX6_endHour_81 : decode cX6_endHour 81 = .ok (.iadd, 1) := by decide +kernel
theorem dX6_endHour_82 : decode cX6_endHour 82 = .ok (.istore_n 2, 1) := by decide +kernel
theorem dX6_endHour_83 : decode cX6_endHour 83 = .ok (.iinc 3 1, 3) := by decide +kernel
theorem dX6_endHour_86 : decode cX6_endHour 86 = .ok (.goto (-25), 3) := by decide +kernel
theorem dX6_endHour_89 : decode cX6_endHour 89 = .ok (.aload_n 0, 1) := by decide +kernel
theorem dX6_endHour_90 : decode cX6_endHour 90 = .ok (.getfield 22, 3) := by decide +kernel
theorem dX6_endHour_93 : decode cX6_endHour 93 = .ok (.aload_n 0, 1) := by decide +kernel
theorem dX6_endHour_94 : decode cX6_endHour 94 = .ok (.getfield 15, 3) := by decide +kernel
theorem dX6_endHour_97 : decode cX6_endHour 97 = .ok (.iload_n 1, 1) := by decide +kernel
theorem dX6_endHour_98 : decode cX6_endHour 98 = .ok (.invokestatic 106, 3) := by decide +kernel
theorem dX6_endHour_101 : decode cX6_endHour 101 = .ok (.aload_n 0, 1) := by decide +kernel
theorem dX6_endHour_102 : decode cX6_endHour 102 = .ok (.dup, 1) := by decide +kernel
theorem dX6_endHour_103 : decode cX6_endHour 103 = .ok (.getfield 15, 3) := by decide +kernel
theorem dX6_endHour_106 : decode cX6_endHour 106 = .ok (.iconst 1, 1) := by decide +kernel
theorem dX6_endHour_107 : decode cX6_endHour 107 = .ok (.iadd, 1) := by decide +kernel
theorem dX6_endHour_108 : decode cX6_endHour 108 = .ok (.putfield 15, 3) := by decide +kernel
theorem dX6_endHour_111 : decode cX6_endHour 111 = .ok (.iload_n 2, 1) := by decide +kernel
theorem dX6_endHour_112 : decode cX6_endHour 112 = .ok (.ireturn, 1) := by decide +kernel
theorem dX6_endSlot_0 : decode cX6_endSlot 0 = .ok (.iload_n 1, 1) := by decide +kernel
theorem dX6_endSlot_1 : decode cX6_endSlot 1 = .ok (.aload_n 0, 1) := by decide +kernel
theorem dX6_endSlot_2 : decode cX6_endSlot 2 = .ok (.getfield 15, 3) := by decide +kernel
theorem dX6_endSlot_5 : decode cX6_endSlot 5 = .ok (.invokestatic 79, 3) := by decide +kernel
theorem dX6_endSlot_8 : decode cX6_endSlot 8 = .ok (.istore_n 3, 1) := by decide +kernel
theorem dX6_endSlot_9 : decode cX6_endSlot 9 = .ok (.aload_n 0, 1) := by decide +kernel
theorem dX6_endSlot_10 : decode cX6_endSlot 10 = .ok (.iload_n 1, 1) := by decide +kernel
theorem dX6_endSlot_11 : decode cX6_endSlot 11 = .ok (.iload_n 3, 1) := by decide +kernel
theorem dX6_endSlot_12 : decode cX6_endSlot 12 = .ok (.iload_n 2, 1) := by decide +kernel
theorem dX6_endSlot_13 : decode cX6_endSlot 13 = .ok (.invokevirtual 199, 3) := by decide +kernel
theorem dX6_endSlot_16 : decode cX6_endSlot 16 = .ok (.istore 4, 2) := by decide +kernel
theorem dX6_endSlot_18 : decode cX6_endSlot 18 = .ok (.iload 4, 2) := by decide +kernel
theorem dX6_endSlot_20 : decode cX6_endSlot 20 = .ok (.ifCond .ne 61, 3) := by decide +kernel
theorem dX6_endSlot_23 : decode cX6_endSlot 23 = .ok (.aload_n 0, 1) := by decide +kernel
theorem dX6_endSlot_24 : decode cX6_endSlot 24 = .ok (.getfield 42, 3) := by decide +kernel
theorem dX6_endSlot_27 : decode cX6_endSlot 27 = .ok (.getfield 202, 3) := by decide +kernel
theorem dX6_endSlot_30 : decode cX6_endSlot 30 = .ok (.aload_n 0, 1) := by decide +kernel
theorem dX6_endSlot_31 : decode cX6_endSlot 31 = .ok (.getfield 35, 3) := by decide +kernel
theorem dX6_endSlot_34 : decode cX6_endSlot 34 = .ok (.iload_n 3, 1) := by decide +kernel
theorem dX6_endSlot_35 : decode cX6_endSlot 35 = .ok (.invokevirtual 187, 3) := by decide +kernel
theorem dX6_endSlot_38 : decode cX6_endSlot 38 = .ok (.iconst 1, 1) := by decide +kernel
theorem dX6_endSlot_39 : decode cX6_endSlot 39 = .ok (.invokestatic 113, 3) := by decide +kernel
theorem dX6_endSlot_42 : decode cX6_endSlot 42 = .ok (.aload_n 0, 1) := by decide +kernel
theorem dX6_endSlot_43 : decode cX6_endSlot 43 = .ok (.getfield 49, 3) := by decide +kernel
theorem dX6_endSlot_46 : decode cX6_endSlot 46 = .ok (.dup, 1) := by decide +kernel
theorem dX6_endSlot_47 : decode cX6_endSlot 47 = .ok (.getfield 205, 3) := by decide +kernel
theorem dX6_endSlot_50 : decode cX6_endSlot 50 = .ok (.iconst 1, 1) := by decide +kernel
theorem dX6_endSlot_51 : decode cX6_endSlot 51 = .ok (.iadd, 1) := by decide +kernel
theorem dX6_endSlot_52 : decode cX6_endSlot 52 = .ok (.putfield 205, 3) := by decide +kernel
theorem dX6_endSlot_55 : decode cX6_endSlot 55 = .ok (.aload_n 0, 1) := by decide +kernel
theorem dX6_endSlot_56 : decode cX6_endSlot 56 = .ok (.getfield 49, 3) := by decide +kernel
theorem dX6_endSlot_59 : decode cX6_endSlot 59 = .ok (.dup, 1) := by decide +kernel
theorem dX6_endSlot_60 : decode cX6_endSlot 60 = .ok (.getfield 207, 3) := by decide +kernel
theorem dX6_endSlot_63 : decode cX6_endSlot 63 = .ok (.aload_n 0, 1) := by decide +kernel
theorem dX6_endSlot_64 : decode cX6_endSlot 64 = .ok (.getfield 35, 3) := by decide +kernel
theorem dX6_endSlot_67 : decode cX6_endSlot 67 = .ok (.getfield 210, 3) := by decide +kernel
theorem dX6_endSlot_70 : decode cX6_endSlot 70 = .ok (.iload_n 3, 1) := by decide +kernel
theorem dX6_endSlot_71 : decode cX6_endSlot 71 = .ok (.invokestatic 86, 3) := by decide +kernel
theorem dX6_endSlot_74 : decode cX6_endSlot 74 = .ok (.iadd, 1) := by decide +kernel
theorem dX6_endSlot_75 : decode cX6_endSlot 75 = .ok (.putfield 207, 3) := by decide +kernel
theorem dX6_endSlot_78 : decode cX6_endSlot 78 = .ok (.goto 16, 3) := by decide +kernel
theorem dX6_endSlot_81 : decode cX6_endSlot 81 = .ok (.aload_n 0, 1) := by decide +kernel
theorem dX6_endSlot_82 : decode cX6_endSlot 82 = .ok (.getfield 49, 3) := by decide +kernel
theorem dX6_endSlot_85 : decode cX6_endSlot 85 = .ok (.getfield 212, 3) := by decide +kernel
theorem dX6_endSlot_88 : decode cX6_endSlot 88 = .ok (.iload 4, 2) := by decide +kernel
theorem dX6_endSlot_90 : decode cX6_endSlot 90 = .ok (.iconst 1, 1) := by decide +kernel
theorem dX6_endSlot_91 : decode cX6_endSlot 91 = .ok (.invokestatic 113, 3) := by decide +kernel
theorem dX6_endSlot_94 : decode cX6_endSlot 94 = .ok (.iload 4, 2) := by decide +kernel
theorem dX6_endSlot_96 : decode cX6_endSlot 96 = .ok (.iconst 3, 1) := by decide +kernel
theorem dX6_endSlot_97 : decode cX6_endSlot 97 = .ok (.if_icmp .ne 26, 3) := by decide +kernel
theorem dX6_endSlot_100 : decode cX6_endSlot 100 = .ok (.aload_n 0, 1) := by decide +kernel
theorem dX6_endSlot_101 : decode cX6_endSlot 101 = .ok (.aload_n 0, 1) := by decide +kernel
theorem dX6_endSlot_102 : decode cX6_endSlot 102 = .ok (.getfield 35, 3) := by decide +kernel
theorem dX6_endSlot_105 : decode cX6_endSlot 105 = .ok (.iload_n 3, 1) := by decide +kernel
theorem dX6_endSlot_106 : decode cX6_endSlot 106 = .ok (.invokevirtual 187, 3) := by decide +kernel
theorem dX6_endSlot_109 : decode cX6_endSlot 109 = .ok (.aload_n 0, 1) := by decide +kernel
theorem dX6_endSlot_110 : decode cX6_endSlot 110 = .ok (.getfield 35, 3) := by decide +kernel
theorem dX6_endSlot_113 : decode cX6_endSlot 113 = .ok (.getfield 174, 3) := by decide +kernel
theorem dX6_endSlot_116 : decode cX6_endSlot 116 = .ok (.iload_n 3, 1) := by decide +kernel
theorem dX6_endSlot_117 : decode cX6_endSlot 117 = .ok (.invokestatic 86, 3) := by decide +kernel
theorem dX6_endSlot_120 : decode cX6_endSlot 120 = .ok (.invokevirtual 215, 3) := by decide +kernel
theorem dX6_endSlot_123 : decode cX6_endSlot 123 = .ok (.aload_n 0, 1) := by decide +kernel
theorem dX6_endSlot_124 : decode cX6_endSlot 124 = .ok (.getfield 35, 3) := by decide +kernel
theorem dX6_endSlot_127 : decode cX6_endSlot 127 = .ok (.getfield 218, 3) := by decide +kernel
theorem dX6_endSlot_130 : decode cX6_endSlot 130 = .ok (.iload_n 3, 1) := by decide +kernel
theorem dX6_endSlot_131 : decode cX6_endSlot 131 = .ok (.iload 4, 2) := by decide +kernel
theorem dX6_endSlot_133 : decode cX6_endSlot 133 = .ok (.invokestatic 106, 3) := by decide +kernel
theorem dX6_endSlot_136 : decode cX6_endSlot 136 = .ok (.aload_n 0, 1) := by decide +kernel
theorem dX6_endSlot_137 : decode cX6_endSlot 137 = .ok (.getfield 28, 3) := by decide +kernel
theorem dX6_endSlot_140 : decode cX6_endSlot 140 = .ok (.iload_n 3, 1) := by decide +kernel
theorem dX6_endSlot_141 : decode cX6_endSlot 141 = .ok (.invokevirtual 183, 3) := by decide +kernel
theorem dX6_endSlot_144 : decode cX6_endSlot 144 = .ok (.iload 4, 2) := by decide +kernel
theorem dX6_endSlot_146 : decode cX6_endSlot 146 = .ok (.ifCond .ne 7, 3) := by decide +kernel
theorem dX6_endSlot_149 : decode cX6_endSlot 149 = .ok (.iconst 1, 1) := by decide +kernel
theorem dX6_endSlot_150 : decode cX6_endSlot 150 = .ok (.goto 4, 3) := by decide +kernel
theorem dX6_endSlot_153 : decode cX6_endSlot 153 = .ok (.iconst 0, 1) := by decide +kernel
theorem dX6_endSlot_154 : decode cX6_endSlot 154 = .ok (.ireturn, 1) := by decide +kernel
theorem dX6_reasonAgainst_0 : decode cX6_reasonAgainst 0 = .ok (.aload_n 0, 1) := by decide +kernel
theorem dX6_reasonAgainst_1 : decode cX6_reasonAgainst 1 = .ok (.getfield 35, 3) := by decide +kernel
theorem dX6_reasonAgainst_4 : decode cX6_reasonAgainst 4 = .ok (.iload_n 2, 1) := by decide +kernel
theorem dX6_reasonAgainst_5 : decode cX6_reasonAgainst 5 = .ok (.invokevirtual 83, 3) := by decide +kernel
theorem dX6_reasonAgainst_8 : decode cX6_reasonAgainst 8 = .ok (.ifCond .ne 20, 3) := by decide +kernel
theorem dX6_reasonAgainst_11 : decode cX6_reasonAgainst 11 = .ok (.aload_n 0, 1) := by decide +kernel
theorem dX6_reasonAgainst_12 : decode cX6_reasonAgainst 12 = .ok (.getfield 28, 3) := by decide +kernel
theorem dX6_reasonAgainst_15 : decode cX6_reasonAgainst 15 = .ok (.iload_n 2, 1) := by decide +kernel
theorem dX6_reasonAgainst_16 : decode cX6_reasonAgainst 16 = .ok (.invokevirtual 147, 3) := by decide +kernel
theorem dX6_reasonAgainst_19 : decode cX6_reasonAgainst 19 = .ok (.ifCond .le 7, 3) := by decide +kernel
theorem dX6_reasonAgainst_22 : decode cX6_reasonAgainst 22 = .ok (.iconst 2, 1) := by decide +kernel
theorem dX6_reasonAgainst_23 : decode cX6_reasonAgainst 23 = .ok (.goto 4, 3) := by decide +kernel
theorem dX6_reasonAgainst_26 : decode cX6_reasonAgainst 26 = .ok (.iconst 1, 1) := by decide +kernel
theorem dX6_reasonAgainst_27 : decode cX6_reasonAgainst 27 = .ok (.ireturn, 1) := by decide +kernel
theorem dX6_reasonAgainst_28 : decode cX6_reasonAgainst 28 = .ok (.aload_n 0, 1) := by decide +kernel
theorem dX6_reasonAgainst_29 : decode cX6_reasonAgainst 29 = .ok (.getfield 35, 3) := by decide +kernel
theorem dX6_reasonAgainst_32 : decode cX6_reasonAgainst 32 = .ok (.getfield 210, 3) := by decide +kernel
theorem dX6_reasonAgainst_35 : decode cX6_reasonAgainst 35 = .ok (.iload_n 2, 1) := by decide +kernel
theorem dX6_reasonAgainst_36 : decode cX6_reasonAgainst 36 = .ok (.invokestatic 86, 3) := by decide +kernel
theorem dX6_reasonAgainst_39 : decode cX6_reasonAgainst 39 = .ok (.iload_n 1, 1) := by decide +kernel
theorem dX6_reasonAgainst_40 : decode cX6_reasonAgainst 40 = .ok (.iload_n 3, 1) := by decide +kernel
theorem dX6_reasonAgainst_41 : decode cX6_reasonAgainst 41 = .ok (.invokestatic 90, 3) := by decide +kernel
theorem dX6_reasonAgainst_44 : decode cX6_reasonAgainst 44 = .ok (.if_icmp .le 7, 3) := by decide +kernel
theorem dX6_reasonAgainst_47 : decode cX6_reasonAgainst 47 = .ok (.iconst 3, 1) := by decide +kernel
theorem dX6_reasonAgainst_48 : decode cX6_reasonAgainst 48 = .ok (.goto 4, 3) := by decide +kernel
theorem dX6_reasonAgainst_51 : decode cX6_reasonAgainst 51 = .ok (.iconst 0, 1) := by decide +kernel
theorem dX6_reasonAgainst_52 : decode cX6_reasonAgainst 52 = .ok (.ireturn, 1) := by decide +kernel
theorem dX6_refund_0 : decode cX6_refund 0 = .ok (.aload_n 0, 1) := by decide +kernel
theorem dX6_refund_1 : decode cX6_refund 1 = .ok (.getfield 42, 3) := by decide +kernel
theorem dX6_refund_4 : decode cX6_refund 4 = .ok (.iload_n 1, 1) := by decide +kernel
theorem dX6_refund_5 : decode cX6_refund 5 = .ok (.iload_n 2, 1) := by decide +kernel
theorem dX6_refund_6 : decode cX6_refund 6 = .ok (.ineg, 1) := by decide +kernel
theorem dX6_refund_7 : decode cX6_refund 7 = .ok (.invokevirtual 177, 3) := by decide +kernel
theorem dX6_refund_10 : decode cX6_refund 10 = .ok (.aload_n 0, 1) := by decide +kernel
theorem dX6_refund_11 : decode cX6_refund 11 = .ok (.getfield 49, 3) := by decide +kernel
theorem dX6_refund_14 : decode cX6_refund 14 = .ok (.dup, 1) := by decide +kernel
theorem dX6_refund_15 : decode cX6_refund 15 = .ok (.getfield 180, 3) := by decide +kernel
theorem dX6_refund_18 : decode cX6_refund 18 = .ok (.iload_n 2, 1) := by decide +kernel
theorem dX6_refund_19 : decode cX6_refund 19 = .ok (.isub, 1) := by decide +kernel
theorem dX6_refund_20 : decode cX6_refund 20 = .ok (.putfield 180, 3) := by decide +kernel
theorem dX6_refund_23 : decode cX6_refund 23 = .ok (.aload_n 0, 1) := by decide +kernel
theorem dX6_refund_24 : decode cX6_refund 24 = .ok (.getfield 49, 3) := by decide +kernel
theorem dX6_refund_27 : decode cX6_refund 27 = .ok (.dup, 1) := by decide +kernel
theorem dX6_refund_28 : decode cX6_refund 28 = .ok (.getfield 221, 3) := by decide +kernel
theorem dX6_refund_31 : decode cX6_refund 31 = .ok (.iload_n 2, 1) := by decide +kernel
theorem dX6_refund_32 : decode cX6_refund 32 = .ok (.iadd, 1) := by decide +kernel
theorem dX6_refund_33 : decode cX6_refund 33 = .ok (.putfield 221, 3) := by decide +kernel
theorem dX6_refund_36 : decode cX6_refund 36 = .ok (.return_, 1) := by decide +kernel
theorem dX6_beginDay_0 : decode cX6_beginDay 0 = .ok (.aload_n 0, 1) := by decide +kernel
theorem dX6_beginDay_1 : decode cX6_beginDay 1 = .ok (.getfield 15, 3) := by decide +kernel
theorem dX6_beginDay_4 : decode cX6_beginDay 4 = .ok (.bipush 16, 2) := by decide +kernel
theorem dX6_beginDay_6 : decode cX6_beginDay 6 = .ok (.if_icmp .ge 6, 3) := by decide +kernel
theorem dX6_beginDay_9 : decode cX6_beginDay 9 = .ok (.bipush (-4), 2) := by decide +kernel
theorem dX6_beginDay_11 : decode cX6_beginDay 11 = .ok (.ireturn, 1) := by decide +kernel
theorem dX6_beginDay_12 : decode cX6_beginDay 12 = .ok (.aload_n 0, 1) := by decide +kernel
theorem dX6_beginDay_13 : decode cX6_beginDay 13 = .ok (.getfield 9, 3) := by decide +kernel
theorem dX6_beginDay_16 : decode cX6_beginDay 16 = .ok (.sipush 999, 3) := by decide +kernel
theorem dX6_beginDay_19 : decode cX6_beginDay 19 = .ok (.if_icmp .lt 6, 3) := by decide +kernel
theorem dX6_beginDay_22 : decode cX6_beginDay 22 = .ok (.bipush (-3), 2) := by decide +kernel
theorem dX6_beginDay_24 : decode cX6_beginDay 24 = .ok (.ireturn, 1) := by decide +kernel
theorem dX6_beginDay_25 : decode cX6_beginDay 25 = .ok (.aload_n 0, 1) := by decide +kernel
theorem dX6_beginDay_26 : decode cX6_beginDay 26 = .ok (.dup, 1) := by decide +kernel
theorem dX6_beginDay_27 : decode cX6_beginDay 27 = .ok (.getfield 9, 3) := by decide +kernel
theorem dX6_beginDay_30 : decode cX6_beginDay 30 = .ok (.iconst 1, 1) := by decide +kernel
theorem dX6_beginDay_31 : decode cX6_beginDay 31 = .ok (.iadd, 1) := by decide +kernel
theorem dX6_beginDay_32 : decode cX6_beginDay 32 = .ok (.putfield 9, 3) := by decide +kernel
theorem dX6_beginDay_35 : decode cX6_beginDay 35 = .ok (.aload_n 0, 1) := by decide +kernel
theorem dX6_beginDay_36 : decode cX6_beginDay 36 = .ok (.iconst 0, 1) := by decide +kernel
theorem dX6_beginDay_37 : decode cX6_beginDay 37 = .ok (.putfield 15, 3) := by decide +kernel
theorem dX6_beginDay_40 : decode cX6_beginDay 40 = .ok (.aload_n 0, 1) := by decide +kernel
theorem dX6_beginDay_41 : decode cX6_beginDay 41 = .ok (.getfield 35, 3) := by decide +kernel
theorem dX6_beginDay_44 : decode cX6_beginDay 44 = .ok (.invokevirtual 224, 3) := by decide +kernel
theorem dX6_beginDay_47 : decode cX6_beginDay 47 = .ok (.aload_n 0, 1) := by decide +kernel
theorem dX6_beginDay_48 : decode cX6_beginDay 48 = .ok (.getfield 18, 3) := by decide +kernel
theorem dX6_beginDay_51 : decode cX6_beginDay 51 = .ok (.bipush 20, 2) := by decide +kernel
theorem dX6_beginDay_53 : decode cX6_beginDay 53 = .ok (.invokestatic 53, 3) := by decide +kernel
theorem dX6_beginDay_56 : decode cX6_beginDay 56 = .ok (.aload_n 0, 1) := by decide +kernel
theorem dX6_beginDay_57 : decode cX6_beginDay 57 = .ok (.getfield 22, 3) := by decide +kernel
theorem dX6_beginDay_60 : decode cX6_beginDay 60 = .ok (.iconst 0, 1) := by decide +kernel
theorem dX6_beginDay_61 : decode cX6_beginDay 61 = .ok (.invokestatic 53, 3) := by decide +kernel
theorem dX6_beginDay_64 : decode cX6_beginDay 64 = .ok (.aload_n 0, 1) := by decide +kernel
theorem dX6_beginDay_65 : decode cX6_beginDay 65 = .ok (.getfield 9, 3) := by decide +kernel
theorem dX6_beginDay_68 : decode cX6_beginDay 68 = .ok (.ireturn, 1) := by decide +kernel
theorem dX6_openAwards_0 : decode cX6_openAwards 0 = .ok (.iconst 0, 1) := by decide +kernel
theorem dX6_openAwards_1 : decode cX6_openAwards 1 = .ok (.istore_n 2, 1) := by decide +kernel
theorem dX6_openAwards_2 : decode cX6_openAwards 2 = .ok (.iconst 0, 1) := by decide +kernel
theorem dX6_openAwards_3 : decode cX6_openAwards 3 = .ok (.istore_n 3, 1) := by decide +kernel
theorem dX6_openAwards_4 : decode cX6_openAwards 4 = .ok (.iload_n 3, 1) := by decide +kernel
theorem dX6_openAwards_5 : decode cX6_openAwards 5 = .ok (.iconst 3, 1) := by decide +kernel
theorem dX6_openAwards_6 : decode cX6_openAwards 6 = .ok (.if_icmp .ge 70, 3) := by decide +kernel
theorem dX6_openAwards_9 : decode cX6_openAwards 9 = .ok (.aload_n 0, 1) := by decide +kernel
theorem dX6_openAwards_10 : decode cX6_openAwards 10 = .ok (.getfield 15, 3) := by decide +kernel
theorem dX6_openAwards_13 : decode cX6_openAwards 13 = .ok (.istore 4, 2) := by decide +kernel
theorem dX6_openAwards_15 : decode cX6_openAwards 15 = .ok (.iload 4, 2) := by decide +kernel
theorem dX6_openAwards_17 : decode cX6_openAwards 17 = .ok (.bipush 16, 2) := by decide +kernel
theorem dX6_openAwards_19 : decode cX6_openAwards 19 = .ok (.if_icmp .ge 51, 3) := by decide +kernel
theorem dX6_openAwards_22 : decode cX6_openAwards 22 = .ok (.aload_n 0, 1) := by decide +kernel
theorem dX6_openAwards_23 : decode cX6_openAwards 23 = .ok (.getfield 35, 3) := by decide +kernel
theorem dX6_openAwards_26 : decode cX6_openAwards 26 = .ok (.iload_n 3, 1) := by decide +kernel
theorem dX6_openAwards_27 : decode cX6_openAwards 27 = .ok (.iload 4, 2) := by decide +kernel
theorem dX6_openAwards_29 : decode cX6_openAwards 29 = .ok (.invokestatic 79, 3) := by decide +kernel
theorem dX6_openAwards_32 : decode cX6_openAwards 32 = .ok (.invokevirtual 187, 3) := by decide +kernel
theorem dX6_openAwards_35 : decode cX6_openAwards 35 = .ok (.istore 5, 2) := by decide +kernel
theorem dX6_openAwards_37 : decode cX6_openAwards 37 = .ok (.iload_n 2, 1) := by decide +kernel
theorem dX6_openAwards_38 : decode cX6_openAwards 38 = .ok (.iload 5, 2) := by decide +kernel
theorem dX6_openAwards_40 : decode cX6_openAwards 40 = .ok (.bipush (-5), 2) := by decide +kernel
theorem dX6_openAwards_42 : decode cX6_openAwards 42 = .ok (.if_icmp .eq 19, 3) := by decide +kernel
theorem dX6_openAwards_45 : decode cX6_openAwards 45 = .ok (.iload_n 1, 1) := by decide +kernel
theorem dX6_openAwards_46 : decode cX6_openAwards 46 = .ok (.bipush (-5), 2) := by decide +kernel
theorem dX6_openAwards_48 : decode cX6_openAwards 48 = .ok (.if_icmp .eq 9, 3) := by decide +kernel
theorem dX6_openAwards_51 : decode cX6_openAwards 51 = .ok (.iload 5, 2) := by decide +kernel
theorem dX6_openAwards_53 : decode cX6_openAwards 53 = .ok (.iload_n 1, 1) := by decide +kernel
theorem dX6_openAwards_54 : decode cX6_openAwards 54 = .ok (.if_icmp .ne 7, 3) := by decide +kernel
theorem dX6_openAwards_57 : decode cX6_openAwards 57 = .ok (.iconst 1, 1) := by decide +kernel
theorem dX6_openAwards_58 : decode cX6_openAwards 58 = .ok (.goto 4, 3) := by decide +kernel
theorem dX6_openAwards_61 : decode cX6_openAwards 61 = .ok (.iconst 0, 1) := by decide +kernel
theorem dX6_openAwards_62 : decode cX6_openAwards 62 = .ok (.iadd, 1) := by decide +kernel
theorem dX6_openAwards_63 : decode cX6_openAwards 63 = .ok (.istore_n 2, 1) := by decide +kernel
theorem dX6_openAwards_64 : decode cX6_openAwards 64 = .ok (.iinc 4 1, 3) := by decide +kernel
theorem dX6_openAwards_67 : decode cX6_openAwards 67 = .ok (.goto (-52), 3) := by decide +kernel
theorem dX6_openAwards_70 : decode cX6_openAwards 70 = .ok (.iinc 3 1, 3) := by decide +kernel
theorem dX6_openAwards_73 : decode cX6_openAwards 73 = .ok (.goto (-69), 3) := by decide +kernel
theorem dX6_openAwards_76 : decode cX6_openAwards 76 = .ok (.iload_n 2, 1) := by decide +kernel
theorem dX6_openAwards_77 : decode cX6_openAwards 77 = .ok (.ireturn, 1) := by decide +kernel
theorem dX6_cheapestHour_0 : decode cX6_cheapestHour 0 = .ok (.bipush (-5), 2) := by decide +kernel
theorem dX6_cheapestHour_2 : decode cX6_cheapestHour 2 = .ok (.istore_n 3, 1) := by decide +kernel
theorem dX6_cheapestHour_3 : decode cX6_cheapestHour 3 = .ok (.iconst 0, 1) := by decide +kernel
theorem dX6_cheapestHour_4 : decode cX6_cheapestHour 4 = .ok (.istore 4, 2) := by decide +kernel
theorem dX6_cheapestHour_6 : decode cX6_cheapestHour 6 = .ok (.aload_n 0, 1) := by decide +kernel
theorem dX6_cheapestHour_7 : decode cX6_cheapestHour 7 = .ok (.getfield 15, 3) := by decide +kernel
theorem dX6_cheapestHour_10 : decode cX6_cheapestHour 10 = .ok (.istore 5, 2) := by decide +kernel
theorem dX6_cheapestHour_12 : decode cX6_cheapestHour 12 = .ok (.iload 5, 2) := by decide +kernel
theorem dX6_cheapestHour_14 : decode cX6_cheapestHour 14 = .ok (.bipush 16, 2) := by decide +kernel
theorem dX6_cheapestHour_16 : decode cX6_cheapestHour 16 = .ok (.if_icmp .ge 69, 3) := by decide +kernel
theorem dX6_cheapestHour_19 : decode cX6_cheapestHour 19 = .ok (.aload_n 0, 1) := by decide +kernel
theorem dX6_cheapestHour_20 : decode cX6_cheapestHour 20 = .ok (.iload_n 1, 1) := by decide +kernel
theorem dX6_cheapestHour_21 : decode cX6_cheapestHour 21 = .ok (.iload 5, 2) := by decide +kernel
theorem dX6_cheapestHour_23 : decode cX6_cheapestHour 23 = .ok (.invokevirtual 126, 3) := by decide +kernel
theorem dX6_cheapestHour_26 : decode cX6_cheapestHour 26 = .ok (.ifCond .eq 53, 3) := by decide +kernel
theorem dX6_cheapestHour_29 : decode cX6_cheapestHour 29 = .ok (.iload_n 2, 1) := by decide +kernel
theorem dX6_cheapestHour_30 : decode cX6_cheapestHour 30 = .ok (.aload_n 0, 1) := by decide +kernel
theorem dX6_cheapestHour_31 : decode cX6_cheapestHour 31 = .ok (.iload_n 1, 1) := by decide +kernel
theorem dX6_cheapestHour_32 : decode cX6_cheapestHour 32 = .ok (.iload 5, 2) := by decide +kernel
theorem dX6_cheapestHour_34 : decode cX6_cheapestHour 34 = .ok (.invokevirtual 150, 3) := by decide +kernel
theorem dX6_cheapestHour_37 : decode cX6_cheapestHour 37 = .ok (.if_icmp .gt 42, 3) := by decide +kernel
theorem dX6_cheapestHour_40 : decode cX6_cheapestHour 40 = .ok (.aload_n 0, 1) := by decide +kernel
theorem dX6_cheapestHour_41 : decode cX6_cheapestHour 41 = .ok (.getfield 28, 3) := by decide +kernel
theorem dX6_cheapestHour_44 : decode cX6_cheapestHour 44 = .ok (.iload_n 1, 1) := by decide +kernel
theorem dX6_cheapestHour_45 : decode cX6_cheapestHour 45 = .ok (.iload 5, 2) := by decide +kernel
theorem dX6_cheapestHour_47 : decode cX6_cheapestHour 47 = .ok (.invokestatic 79, 3) := by decide +kernel
theorem dX6_cheapestHour_50 : decode cX6_cheapestHour 50 = .ok (.bipush 60, 2) := by decide +kernel
theorem dX6_cheapestHour_52 : decode cX6_cheapestHour 52 = .ok (.bipush (-5), 2) := by decide +kernel
theorem dX6_cheapestHour_54 : decode cX6_cheapestHour 54 = .ok (.invokevirtual 153, 3) := by decide +kernel
theorem dX6_cheapestHour_57 : decode cX6_cheapestHour 57 = .ok (.istore 6, 2) := by decide +kernel
theorem dX6_cheapestHour_59 : decode cX6_cheapestHour 59 = .ok (.iload_n 3, 1) := by decide +kernel
theorem dX6_cheapestHour_60 : decode cX6_cheapestHour 60 = .ok (.bipush (-5), 2) := by decide +kernel
theorem dX6_cheapestHour_62 : decode cX6_cheapestHour 62 = .ok (.if_icmp .eq 10, 3) := by decide +kernel
theorem dX6_cheapestHour_65 : decode cX6_cheapestHour 65 = .ok (.iload 6, 2) := by decide +kernel
theorem dX6_cheapestHour_67 : decode cX6_cheapestHour 67 = .ok (.iload 4, 2) := by decide +kernel
theorem dX6_cheapestHour_69 : decode cX6_cheapestHour 69 = .ok (.if_icmp .ge 10, 3) := by decide +kernel
theorem dX6_cheapestHour_72 : decode cX6_cheapestHour 72 = .ok (.iload 5, 2) := by decide +kernel
theorem dX6_cheapestHour_74 : decode cX6_cheapestHour 74 = .ok (.istore_n 3, 1) := by decide +kernel
theorem dX6_cheapestHour_75 : decode cX6_cheapestHour 75 = .ok (.iload 6, 2) := by decide +kernel
theorem dX6_cheapestHour_77 : decode cX6_cheapestHour 77 = .ok (.istore 4, 2) := by decide +kernel
theorem dX6_cheapestHour_79 : decode cX6_cheapestHour 79 = .ok (.iinc 5 1, 3) := by decide +kernel
theorem dX6_cheapestHour_82 : decode cX6_cheapestHour 82 = .ok (.goto (-70), 3) := by decide +kernel
theorem dX6_cheapestHour_85 : decode cX6_cheapestHour 85 = .ok (.iload_n 3, 1) := by decide +kernel
theorem dX6_cheapestHour_86 : decode cX6_cheapestHour 86 = .ok (.ireturn, 1) := by decide +kernel
theorem dX6_total_0 : decode cX6_total 0 = .ok (.iload_n 1, 1) := by decide +kernel
theorem dX6_total_1 : decode cX6_total 1 = .ok (.tableswitch 180 0 13 #[71, 76, 81, 89, 96, 104, 116, 128, 140, 148, 180, 156, 164, 172], 71) := by decide +kernel
theorem dX6_total_72 : decode cX6_total 72 = .ok (.aload_n 0, 1) := by decide +kernel
theorem dX6_total_73 : decode cX6_total 73 = .ok (.getfield 9, 3) := by decide +kernel
theorem dX6_total_76 : decode cX6_total 76 = .ok (.ireturn, 1) := by decide +kernel
theorem dX6_total_77 : decode cX6_total 77 = .ok (.aload_n 0, 1) := by decide +kernel
theorem dX6_total_78 : decode cX6_total 78 = .ok (.getfield 15, 3) := by decide +kernel
theorem dX6_total_81 : decode cX6_total 81 = .ok (.ireturn, 1) := by decide +kernel
theorem dX6_total_82 : decode cX6_total 82 = .ok (.aload_n 0, 1) := by decide +kernel
theorem dX6_total_83 : decode cX6_total 83 = .ok (.getfield 28, 3) := by decide +kernel
theorem dX6_total_86 : decode cX6_total 86 = .ok (.invokevirtual 135, 3) := by decide +kernel
theorem dX6_total_89 : decode cX6_total 89 = .ok (.ireturn, 1) := by decide +kernel
theorem dX6_total_90 : decode cX6_total 90 = .ok (.aload_n 0, 1) := by decide +kernel
theorem dX6_total_91 : decode cX6_total 91 = .ok (.bipush (-5), 2) := by decide +kernel
