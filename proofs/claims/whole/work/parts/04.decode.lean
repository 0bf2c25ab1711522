theorem dX9_clears_31 : decode cX9_clears 31 = .ok (.sipush 531, 3) := by decide +kernel
theorem dX9_clears_34 : decode cX9_clears 34 = .ok (.iadd, 1) := by decide +kernel
theorem dX9_clears_35 : decode cX9_clears 35 = .ok (.bipush 6, 2) := by decide +kernel
theorem dX9_clears_37 : decode cX9_clears 37 = .ok (.iload_n 2, 1) := by decide +kernel
theorem dX9_clears_38 : decode cX9_clears 38 = .ok (.imul, 1) := by decide +kernel
theorem dX9_clears_39 : decode cX9_clears 39 = .ok (.iadd, 1) := by decide +kernel
theorem dX9_clears_40 : decode cX9_clears 40 = .ok (.iload_n 3, 1) := by decide +kernel
theorem dX9_clears_41 : decode cX9_clears 41 = .ok (.iadd, 1) := by decide +kernel
theorem dX9_clears_42 : decode cX9_clears 42 = .ok (.iconst 0, 1) := by decide +kernel
theorem dX9_clears_43 : decode cX9_clears 43 = .ok (.iastore, 1) := by decide +kernel
theorem dX9_clears_44 : decode cX9_clears 44 = .ok (.iinc 3 1, 3) := by decide +kernel
theorem dX9_clears_47 : decode cX9_clears 47 = .ok (.goto (-45), 3) := by decide +kernel
theorem dX9_clears_50 : decode cX9_clears 50 = .ok (.return_, 1) := by decide +kernel
theorem dX9_offered_0 : decode cX9_offered 0 = .ok (.iconst 0, 1) := by decide +kernel
theorem dX9_offered_1 : decode cX9_offered 1 = .ok (.istore_n 3, 1) := by decide +kernel
theorem dX9_offered_2 : decode cX9_offered 2 = .ok (.iconst 0, 1) := by decide +kernel
theorem dX9_offered_3 : decode cX9_offered 3 = .ok (.istore 4, 2) := by decide +kernel
theorem dX9_offered_5 : decode cX9_offered 5 = .ok (.iload 4, 2) := by decide +kernel
theorem dX9_offered_7 : decode cX9_offered 7 = .ok (.bipush 48, 2) := by decide +kernel
theorem dX9_offered_9 : decode cX9_offered 9 = .ok (.if_icmp .ge 30, 3) := by decide +kernel
theorem dX9_offered_12 : decode cX9_offered 12 = .ok (.iload_n 3, 1) := by decide +kernel
theorem dX9_offered_13 : decode cX9_offered 13 = .ok (.aload_n 0, 1) := by decide +kernel
theorem dX9_offered_14 : decode cX9_offered 14 = .ok (.getfield 7, 3) := by decide +kernel
theorem dX9_offered_17 : decode cX9_offered 17 = .ok (.iload_n 1, 1) := by decide +kernel
theorem dX9_offered_18 : decode cX9_offered 18 = .ok (.sipush 531, 3) := by decide +kernel
theorem dX9_offered_21 : decode cX9_offered 21 = .ok (.iadd, 1) := by decide +kernel
theorem dX9_offered_22 : decode cX9_offered 22 = .ok (.bipush 6, 2) := by decide +kernel
theorem dX9_offered_24 : decode cX9_offered 24 = .ok (.iload 4, 2) := by decide +kernel
theorem dX9_offered_26 : decode cX9_offered 26 = .ok (.imul, 1) := by decide +kernel
theorem dX9_offered_27 : decode cX9_offered 27 = .ok (.iadd, 1) := by decide +kernel
theorem dX9_offered_28 : decode cX9_offered 28 = .ok (.iload_n 2, 1) := by decide +kernel
theorem dX9_offered_29 : decode cX9_offered 29 = .ok (.iadd, 1) := by decide +kernel
theorem dX9_offered_30 : decode cX9_offered 30 = .ok (.iaload, 1) := by decide +kernel
theorem dX9_offered_31 : decode cX9_offered 31 = .ok (.iadd, 1) := by decide +kernel
theorem dX9_offered_32 : decode cX9_offered 32 = .ok (.istore_n 3, 1) := by decide +kernel
theorem dX9_offered_33 : decode cX9_offered 33 = .ok (.iinc 4 1, 3) := by decide +kernel
theorem dX9_offered_36 : decode cX9_offered 36 = .ok (.goto (-31), 3) := by decide +kernel
theorem dX9_offered_39 : decode cX9_offered 39 = .ok (.iload_n 3, 1) := by decide +kernel
theorem dX9_offered_40 : decode cX9_offered 40 = .ok (.ireturn, 1) := by decide +kernel
theorem dX9_bidsOf_0 : decode cX9_bidsOf 0 = .ok (.iconst 0, 1) := by decide +kernel
theorem dX9_bidsOf_1 : decode cX9_bidsOf 1 = .ok (.istore_n 3, 1) := by decide +kernel
theorem dX9_bidsOf_2 : decode cX9_bidsOf 2 = .ok (.iconst 0, 1) := by decide +kernel
theorem dX9_bidsOf_3 : decode cX9_bidsOf 3 = .ok (.istore 4, 2) := by decide +kernel
theorem dX9_bidsOf_5 : decode cX9_bidsOf 5 = .ok (.iload 4, 2) := by decide +kernel
theorem dX9_bidsOf_7 : decode cX9_bidsOf 7 = .ok (.bipush 48, 2) := by decide +kernel
theorem dX9_bidsOf_9 : decode cX9_bidsOf 9 = .ok (.if_icmp .ge 38, 3) := by decide +kernel
theorem dX9_bidsOf_12 : decode cX9_bidsOf 12 = .ok (.iload_n 3, 1) := by decide +kernel
theorem dX9_bidsOf_13 : decode cX9_bidsOf 13 = .ok (.aload_n 0, 1) := by decide +kernel
theorem dX9_bidsOf_14 : decode cX9_bidsOf 14 = .ok (.getfield 7, 3) := by decide +kernel
theorem dX9_bidsOf_17 : decode cX9_bidsOf 17 = .ok (.iload_n 1, 1) := by decide +kernel
theorem dX9_bidsOf_18 : decode cX9_bidsOf 18 = .ok (.sipush 531, 3) := by decide +kernel
theorem dX9_bidsOf_21 : decode cX9_bidsOf 21 = .ok (.iadd, 1) := by decide +kernel
theorem dX9_bidsOf_22 : decode cX9_bidsOf 22 = .ok (.bipush 6, 2) := by decide +kernel
theorem dX9_bidsOf_24 : decode cX9_bidsOf 24 = .ok (.iload 4, 2) := by decide +kernel
theorem dX9_bidsOf_26 : decode cX9_bidsOf 26 = .ok (.imul, 1) := by decide +kernel
theorem dX9_bidsOf_27 : decode cX9_bidsOf 27 = .ok (.iadd, 1) := by decide +kernel
theorem dX9_bidsOf_28 : decode cX9_bidsOf 28 = .ok (.iload_n 2, 1) := by decide +kernel
theorem dX9_bidsOf_29 : decode cX9_bidsOf 29 = .ok (.iadd, 1) := by decide +kernel
theorem dX9_bidsOf_30 : decode cX9_bidsOf 30 = .ok (.iaload, 1) := by decide +kernel
theorem dX9_bidsOf_31 : decode cX9_bidsOf 31 = .ok (.ifCond .le 7, 3) := by decide +kernel
theorem dX9_bidsOf_34 : decode cX9_bidsOf 34 = .ok (.iconst 1, 1) := by decide +kernel
theorem dX9_bidsOf_35 : decode cX9_bidsOf 35 = .ok (.goto 4, 3) := by decide +kernel
theorem dX9_bidsOf_38 : decode cX9_bidsOf 38 = .ok (.iconst 0, 1) := by decide +kernel
theorem dX9_bidsOf_39 : decode cX9_bidsOf 39 = .ok (.iadd, 1) := by decide +kernel
theorem dX9_bidsOf_40 : decode cX9_bidsOf 40 = .ok (.istore_n 3, 1) := by decide +kernel
theorem dX9_bidsOf_41 : decode cX9_bidsOf 41 = .ok (.iinc 4 1, 3) := by decide +kernel
theorem dX9_bidsOf_44 : decode cX9_bidsOf 44 = .ok (.goto (-39), 3) := by decide +kernel
theorem dX9_bidsOf_47 : decode cX9_bidsOf 47 = .ok (.iload_n 3, 1) := by decide +kernel
theorem dX9_bidsOf_48 : decode cX9_bidsOf 48 = .ok (.ireturn, 1) := by decide +kernel
theorem dX9_bidsFor_0 : decode cX9_bidsFor 0 = .ok (.iconst 0, 1) := by decide +kernel
theorem dX9_bidsFor_1 : decode cX9_bidsFor 1 = .ok (.istore_n 3, 1) := by decide +kernel
theorem dX9_bidsFor_2 : decode cX9_bidsFor 2 = .ok (.iconst 0, 1) := by decide +kernel
theorem dX9_bidsFor_3 : decode cX9_bidsFor 3 = .ok (.istore 4, 2) := by decide +kernel
theorem dX9_bidsFor_5 : decode cX9_bidsFor 5 = .ok (.iload 4, 2) := by decide +kernel
theorem dX9_bidsFor_7 : decode cX9_bidsFor 7 = .ok (.bipush 6, 2) := by decide +kernel
theorem dX9_bidsFor_9 : decode cX9_bidsFor 9 = .ok (.if_icmp .ge 38, 3) := by decide +kernel
theorem dX9_bidsFor_12 : decode cX9_bidsFor 12 = .ok (.iload_n 3, 1) := by decide +kernel
theorem dX9_bidsFor_13 : decode cX9_bidsFor 13 = .ok (.aload_n 0, 1) := by decide +kernel
theorem dX9_bidsFor_14 : decode cX9_bidsFor 14 = .ok (.getfield 7, 3) := by decide +kernel
theorem dX9_bidsFor_17 : decode cX9_bidsFor 17 = .ok (.iload_n 1, 1) := by decide +kernel
theorem dX9_bidsFor_18 : decode cX9_bidsFor 18 = .ok (.sipush 531, 3) := by decide +kernel
theorem dX9_bidsFor_21 : decode cX9_bidsFor 21 = .ok (.iadd, 1) := by decide +kernel
theorem dX9_bidsFor_22 : decode cX9_bidsFor 22 = .ok (.bipush 6, 2) := by decide +kernel
theorem dX9_bidsFor_24 : decode cX9_bidsFor 24 = .ok (.iload_n 2, 1) := by decide +kernel
theorem dX9_bidsFor_25 : decode cX9_bidsFor 25 = .ok (.imul, 1) := by decide +kernel
theorem dX9_bidsFor_26 : decode cX9_bidsFor 26 = .ok (.iadd, 1) := by decide +kernel
theorem dX9_bidsFor_27 : decode cX9_bidsFor 27 = .ok (.iload 4, 2) := by decide +kernel
theorem dX9_bidsFor_29 : decode cX9_bidsFor 29 = .ok (.iadd, 1) := by decide +kernel
theorem dX9_bidsFor_30 : decode cX9_bidsFor 30 = .ok (.iaload, 1) := by decide +kernel
theorem dX9_bidsFor_31 : decode cX9_bidsFor 31 = .ok (.ifCond .le 7, 3) := by decide +kernel
theorem dX9_bidsFor_34 : decode cX9_bidsFor 34 = .ok (.iconst 1, 1) := by decide +kernel
theorem dX9_bidsFor_35 : decode cX9_bidsFor 35 = .ok (.goto 4, 3) := by decide +kernel
theorem dX9_bidsFor_38 : decode cX9_bidsFor 38 = .ok (.iconst 0, 1) := by decide +kernel
theorem dX9_bidsFor_39 : decode cX9_bidsFor 39 = .ok (.iadd, 1) := by decide +kernel
theorem dX9_bidsFor_40 : decode cX9_bidsFor 40 = .ok (.istore_n 3, 1) := by decide +kernel
theorem dX9_bidsFor_41 : decode cX9_bidsFor 41 = .ok (.iinc 4 1, 3) := by decide +kernel
theorem dX9_bidsFor_44 : decode cX9_bidsFor 44 = .ok (.goto (-39), 3) := by decide +kernel
theorem dX9_bidsFor_47 : decode cX9_bidsFor 47 = .ok (.iload_n 3, 1) := by decide +kernel
theorem dX9_bidsFor_48 : decode cX9_bidsFor 48 = .ok (.ireturn, 1) := by decide +kernel
theorem dX9_bids_0 : decode cX9_bids 0 = .ok (.iconst 0, 1) := by decide +kernel
theorem dX9_bids_1 : decode cX9_bids 1 = .ok (.istore_n 2, 1) := by decide +kernel
theorem dX9_bids_2 : decode cX9_bids 2 = .ok (.iconst 0, 1) := by decide +kernel
theorem dX9_bids_3 : decode cX9_bids 3 = .ok (.istore_n 3, 1) := by decide +kernel
theorem dX9_bids_4 : decode cX9_bids 4 = .ok (.iload_n 3, 1) := by decide +kernel
theorem dX9_bids_5 : decode cX9_bids 5 = .ok (.bipush 48, 2) := by decide +kernel
theorem dX9_bids_7 : decode cX9_bids 7 = .ok (.if_icmp .ge 18, 3) := by decide +kernel
theorem dX9_bids_10 : decode cX9_bids 10 = .ok (.iload_n 2, 1) := by decide +kernel
theorem dX9_bids_11 : decode cX9_bids 11 = .ok (.aload_n 0, 1) := by decide +kernel
theorem dX9_bids_12 : decode cX9_bids 12 = .ok (.iload_n 1, 1) := by decide +kernel
theorem dX9_bids_13 : decode cX9_bids 13 = .ok (.iload_n 3, 1) := by decide +kernel
theorem dX9_bids_14 : decode cX9_bids 14 = .ok (.invokevirtual 38, 3) := by decide +kernel
theorem dX9_bids_17 : decode cX9_bids 17 = .ok (.iadd, 1) := by decide +kernel
theorem dX9_bids_18 : decode cX9_bids 18 = .ok (.istore_n 2, 1) := by decide +kernel
theorem dX9_bids_19 : decode cX9_bids 19 = .ok (.iinc 3 1, 3) := by decide +kernel
theorem dX9_bids_22 : decode cX9_bids 22 = .ok (.goto (-18), 3) := by decide +kernel
theorem dX9_bids_25 : decode cX9_bids 25 = .ok (.iload_n 2, 1) := by decide +kernel
theorem dX9_bids_26 : decode cX9_bids 26 = .ok (.ireturn, 1) := by decide +kernel
theorem dX9_bears_0 : decode cX9_bears 0 = .ok (.iload_n 1, 1) := by decide +kernel
theorem dX9_bears_1 : decode cX9_bears 1 = .ok (.bipush 70, 2) := by decide +kernel
theorem dX9_bears_3 : decode cX9_bears 3 = .ok (.iload_n 0, 1) := by decide +kernel
theorem dX9_bears_4 : decode cX9_bears 4 = .ok (.isub, 1) := by decide +kernel
theorem dX9_bears_5 : decode cX9_bears 5 = .ok (.if_icmp .gt 7, 3) := by decide +kernel
theorem dX9_bears_8 : decode cX9_bears 8 = .ok (.iconst 1, 1) := by decide +kernel
theorem dX9_bears_9 : decode cX9_bears 9 = .ok (.goto 4, 3) := by decide +kernel
theorem dX9_bears_12 : decode cX9_bears 12 = .ok (.iconst 0, 1) := by decide +kernel
theorem dX9_bears_13 : decode cX9_bears 13 = .ok (.ireturn, 1) := by decide +kernel
theorem dX9_borne_0 : decode cX9_borne 0 = .ok (.aload_n 0, 1) := by decide +kernel
theorem dX9_borne_1 : decode cX9_borne 1 = .ok (.getfield 7, 3) := by decide +kernel
theorem dX9_borne_4 : decode cX9_borne 4 = .ok (.iload_n 1, 1) := by decide +kernel
theorem dX9_borne_5 : decode cX9_borne 5 = .ok (.sipush 243, 3) := by decide +kernel
theorem dX9_borne_8 : decode cX9_borne 8 = .ok (.iadd, 1) := by decide +kernel
theorem dX9_borne_9 : decode cX9_borne 9 = .ok (.bipush 6, 2) := by decide +kernel
theorem dX9_borne_11 : decode cX9_borne 11 = .ok (.iload_n 2, 1) := by decide +kernel
theorem dX9_borne_12 : decode cX9_borne 12 = .ok (.imul, 1) := by decide +kernel
theorem dX9_borne_13 : decode cX9_borne 13 = .ok (.iadd, 1) := by decide +kernel
theorem dX9_borne_14 : decode cX9_borne 14 = .ok (.iload_n 3, 1) := by decide +kernel
theorem dX9_borne_15 : decode cX9_borne 15 = .ok (.iadd, 1) := by decide +kernel
theorem dX9_borne_16 : decode cX9_borne 16 = .ok (.iaload, 1) := by decide +kernel
theorem dX9_borne_17 : decode cX9_borne 17 = .ok (.aload_n 0, 1) := by decide +kernel
theorem dX9_borne_18 : decode cX9_borne 18 = .ok (.getfield 7, 3) := by decide +kernel
theorem dX9_borne_21 : decode cX9_borne 21 = .ok (.iload_n 1, 1) := by decide +kernel
theorem dX9_borne_22 : decode cX9_borne 22 = .ok (.bipush 35, 2) := by decide +kernel
theorem dX9_borne_24 : decode cX9_borne 24 = .ok (.iadd, 1) := by decide +kernel
theorem dX9_borne_25 : decode cX9_borne 25 = .ok (.iload_n 2, 1) := by decide +kernel
theorem dX9_borne_26 : decode cX9_borne 26 = .ok (.bipush 16, 2) := by decide +kernel
theorem dX9_borne_28 : decode cX9_borne 28 = .ok (.irem, 1) := by decide +kernel
theorem dX9_borne_29 : decode cX9_borne 29 = .ok (.iadd, 1) := by decide +kernel
theorem dX9_borne_30 : decode cX9_borne 30 = .ok (.iaload, 1) := by decide +kernel
theorem dX9_borne_31 : decode cX9_borne 31 = .ok (.invokestatic 42, 3) := by decide +kernel
theorem dX9_borne_34 : decode cX9_borne 34 = .ok (.istore 4, 2) := by decide +kernel
theorem dX9_borne_36 : decode cX9_borne 36 = .ok (.iload 4, 2) := by decide +kernel
theorem dX9_borne_38 : decode cX9_borne 38 = .ok (.ifCond .eq 23, 3) := by decide +kernel
theorem dX9_borne_41 : decode cX9_borne 41 = .ok (.aload_n 0, 1) := by decide +kernel
theorem dX9_borne_42 : decode cX9_borne 42 = .ok (.getfield 7, 3) := by decide +kernel
theorem dX9_borne_45 : decode cX9_borne 45 = .ok (.iload_n 1, 1) := by decide +kernel
theorem dX9_borne_46 : decode cX9_borne 46 = .ok (.sipush 531, 3) := by decide +kernel
theorem dX9_borne_49 : decode cX9_borne 49 = .ok (.iadd, 1) := by decide +kernel
theorem dX9_borne_50 : decode cX9_borne 50 = .ok (.bipush 6, 2) := by decide +kernel
theorem dX9_borne_52 : decode cX9_borne 52 = .ok (.iload_n 2, 1) := by decide +kernel
theorem dX9_borne_53 : decode cX9_borne 53 = .ok (.imul, 1) := by decide +kernel
theorem dX9_borne_54 : decode cX9_borne 54 = .ok (.iadd, 1) := by decide +kernel
theorem dX9_borne_55 : decode cX9_borne 55 = .ok (.iload_n 3, 1) := by decide +kernel
theorem dX9_borne_56 : decode cX9_borne 56 = .ok (.iadd, 1) := by decide +kernel
theorem dX9_borne_57 : decode cX9_borne 57 = .ok (.iaload, 1) := by decide +kernel
theorem dX9_borne_58 : decode cX9_borne 58 = .ok (.goto 4, 3) := by decide +kernel
theorem dX9_borne_61 : decode cX9_borne 61 = .ok (.iconst 0, 1) := by decide +kernel
theorem dX9_borne_62 : decode cX9_borne 62 = .ok (.ireturn, 1) := by decide +kernel
theorem dX9_best_0 : decode cX9_best 0 = .ok (.iconst (-1), 1) := by decide +kernel
theorem dX9_best_1 : decode cX9_best 1 = .ok (.istore 4, 2) := by decide +kernel
theorem dX9_best_3 : decode cX9_best 3 = .ok (.iconst 0, 1) := by decide +kernel
theorem dX9_best_4 : decode cX9_best 4 = .ok (.istore 5, 2) := by decide +kernel
theorem dX9_best_6 : decode cX9_best 6 = .ok (.iload 5, 2) := by decide +kernel
theorem dX9_best_8 : decode cX9_best 8 = .ok (.bipush 6, 2) := by decide +kernel
theorem dX9_best_10 : decode cX9_best 10 = .ok (.if_icmp .ge 47, 3) := by decide +kernel
theorem dX9_best_13 : decode cX9_best 13 = .ok (.iload 5, 2) := by decide +kernel
theorem dX9_best_15 : decode cX9_best 15 = .ok (.iload_n 3, 1) := by decide +kernel
theorem dX9_best_16 : decode cX9_best 16 = .ok (.if_icmp .eq 35, 3) := by decide +kernel
theorem dX9_best_19 : decode cX9_best 19 = .ok (.aload_n 0, 1) := by decide +kernel
theorem dX9_best_20 : decode cX9_best 20 = .ok (.iload_n 1, 1) := by decide +kernel
theorem dX9_best_21 : decode cX9_best 21 = .ok (.iload_n 2, 1) := by decide +kernel
theorem dX9_best_22 : decode cX9_best 22 = .ok (.iload 5, 2) := by decide +kernel
theorem dX9_best_24 : decode cX9_best 24 = .ok (.invokevirtual 46, 3) := by decide +kernel
theorem dX9_best_27 : decode cX9_best 27 = .ok (.iload 4, 2) := by decide +kernel
theorem dX9_best_29 : decode cX9_best 29 = .ok (.ifCond .ge 7, 3) := by decide +kernel
theorem dX9_best_32 : decode cX9_best 32 = .ok (.iconst 0, 1) := by decide +kernel
theorem dX9_best_33 : decode cX9_best 33 = .ok (.goto 11, 3) := by decide +kernel
theorem dX9_best_36 : decode cX9_best 36 = .ok (.aload_n 0, 1) := by decide +kernel
theorem dX9_best_37 : decode cX9_best 37 = .ok (.iload_n 1, 1) := by decide +kernel
theorem dX9_best_38 : decode cX9_best 38 = .ok (.iload_n 2, 1) := by decide +kernel
theorem dX9_best_39 : decode cX9_best 39 = .ok (.iload 4, 2) := by decide +kernel
theorem dX9_best_41 : decode cX9_best 41 = .ok (.invokevirtual 46, 3) := by decide +kernel
theorem dX9_best_44 : decode cX9_best 44 = .ok (.if_icmp .le 7, 3) := by decide +kernel
theorem dX9_best_47 : decode cX9_best 47 = .ok (.iload 5, 2) := by decide +kernel
theorem dX9_best_49 : decode cX9_best 49 = .ok (.istore 4, 2) := by decide +kernel
theorem dX9_best_51 : decode cX9_best 51 = .ok (.iinc 5 1, 3) := by decide +kernel
theorem dX9_best_54 : decode cX9_best 54 = .ok (.goto (-48), 3) := by decide +kernel
theorem dX9_best_57 : decode cX9_best 57 = .ok (.iload 4, 2) := by decide +kernel
theorem dX9_best_59 : decode cX9_best 59 = .ok (.ireturn, 1) := by decide +kernel
theorem dX9_awards_0 : decode cX9_awards 0 = .ok (.aload_n 0, 1) := by decide +kernel
theorem dX9_awards_1 : decode cX9_awards 1 = .ok (.iload_n 1, 1) := by decide +kernel
theorem dX9_awards_2 : decode cX9_awards 2 = .ok (.iload_n 2, 1) := by decide +kernel
theorem dX9_awards_3 : decode cX9_awards 3 = .ok (.iconst (-1), 1) := by decide +kernel
theorem dX9_awards_4 : decode cX9_awards 4 = .ok (.invokevirtual 50, 3) := by decide +kernel
theorem dX9_awards_7 : decode cX9_awards 7 = .ok (.istore_n 3, 1) := by decide +kernel
theorem dX9_awards_8 : decode cX9_awards 8 = .ok (.iload_n 3, 1) := by decide +kernel
theorem dX9_awards_9 : decode cX9_awards 9 = .ok (.ifCond .lt 136, 3) := by decide +kernel
theorem dX9_awards_12 : decode cX9_awards 12 = .ok (.aload_n 0, 1) := by decide +kernel
theorem dX9_awards_13 : decode cX9_awards 13 = .ok (.iload_n 1, 1) := by decide +kernel
theorem dX9_awards_14 : decode cX9_awards 14 = .ok (.iload_n 2, 1) := by decide +kernel
theorem dX9_awards_15 : decode cX9_awards 15 = .ok (.iload_n 3, 1) := by decide +kernel
theorem dX9_awards_16 : decode cX9_awards 16 = .ok (.invokevirtual 50, 3) := by decide +kernel
theorem dX9_awards_19 : decode cX9_awards 19 = .ok (.istore 4, 2) := by decide +kernel
theorem dX9_awards_21 : decode cX9_awards 21 = .ok (.iload 4, 2) := by decide +kernel
theorem dX9_awards_23 : decode cX9_awards 23 = .ok (.ifCond .ge 7, 3) := by decide +kernel
theorem dX9_awards_26 : decode cX9_awards 26 = .ok (.iconst 0, 1) := by decide +kernel
theorem dX9_awards_27 : decode cX9_awards 27 = .ok (.goto 11, 3) := by decide +kernel
theorem dX9_awards_30 : decode cX9_awards 30 = .ok (.aload_n 0, 1) := by decide +kernel
theorem dX9_awards_31 : decode cX9_awards 31 = .ok (.iload_n 1, 1) := by decide +kernel
theorem dX9_awards_32 : decode cX9_awards 32 = .ok (.iload_n 2, 1) := by decide +kernel
theorem dX9_awards_33 : decode cX9_awards 33 = .ok (.iload 4, 2) := by decide +kernel
theorem dX9_awards_35 : decode cX9_awards 35 = .ok (.invokevirtual 46, 3) := by decide +kernel
theorem dX9_awards_38 : decode cX9_awards 38 = .ok (.istore 5, 2) := by decide +kernel
theorem dX9_awards_40 : decode cX9_awards 40 = .ok (.aload_n 0, 1) := by decide +kernel
theorem dX9_awards_41 : decode cX9_awards 41 = .ok (.getfield 7, 3) := by decide +kernel
theorem dX9_awards_44 : decode cX9_awards 44 = .ok (.iload_n 1, 1) := by decide +kernel
theorem dX9_awards_45 : decode cX9_awards 45 = .ok (.bipush 51, 2) := by decide +kernel
theorem dX9_awards_47 : decode cX9_awards 47 = .ok (.iadd, 1) := by decide +kernel
theorem dX9_awards_48 : decode cX9_awards 48 = .ok (.iload_n 2, 1) := by decide +kernel
theorem dX9_awards_49 : decode cX9_awards 49 = .ok (.iadd, 1) := by decide +kernel
theorem dX9_awards_50 : decode cX9_awards 50 = .ok (.iload_n 3, 1) := by decide +kernel
theorem dX9_awards_51 : decode cX9_awards 51 = .ok (.iastore, 1) := by decide +kernel
theorem dX9_awards_52 : decode cX9_awards 52 = .ok (.aload_n 0, 1) := by decide +kernel
theorem dX9_awards_53 : decode cX9_awards 53 = .ok (.getfield 7, 3) := by decide +kernel
theorem dX9_awards_56 : decode cX9_awards 56 = .ok (.iload_n 1, 1) := by decide +kernel
theorem dX9_awards_57 : decode cX9_awards 57 = .ok (.bipush 99, 2) := by decide +kernel
theorem dX9_awards_59 : decode cX9_awards 59 = .ok (.iadd, 1) := by decide +kernel
theorem dX9_awards_60 : decode cX9_awards 60 = .ok (.iload_n 2, 1) := by decide +kernel
theorem dX9_awards_61 : decode cX9_awards 61 = .ok (.iadd, 1) := by decide +kernel
theorem dX9_awards_62 : decode cX9_awards 62 = .ok (.aload_n 0, 1) := by decide +kernel
theorem dX9_awards_63 : decode cX9_awards 63 = .ok (.getfield 7, 3) := by decide +kernel
theorem dX9_awards_66 : decode cX9_awards 66 = .ok (.iload_n 1, 1) := by decide +kernel
theorem dX9_awards_67 : decode cX9_awards 67 = .ok (.sipush 243, 3) := by decide +kernel
theorem dX9_awards_70 : decode cX9_awards 70 = .ok (.iadd, 1) := by decide +kernel
theorem dX9_awards_71 : decode cX9_awards 71 = .ok (.bipush 6, 2) := by decide +kernel
theorem dX9_awards_73 : decode cX9_awards 73 = .ok (.iload_n 2, 1) := by decide +kernel
theorem dX9_awards_74 : decode cX9_awards 74 = .ok (.imul, 1) := by decide +kernel
theorem dX9_awards_75 : decode cX9_awards 75 = .ok (.iadd, 1) := by decide +kernel
theorem dX9_awards_76 : decode cX9_awards 76 = .ok (.iload_n 3, 1) := by decide +kernel
theorem dX9_awards_77 : decode cX9_awards 77 = .ok (.iadd, 1) := by decide +kernel
theorem dX9_awards_78 : decode cX9_awards 78 = .ok (.iaload, 1) := by decide +kernel
theorem dX9_awards_79 : decode cX9_awards 79 = .ok (.iastore, 1) := by decide +kernel
theorem dX9_awards_80 : decode cX9_awards 80 = .ok (.aload_n 0, 1) := by decide +kernel
theorem dX9_awards_81 : decode cX9_awards 81 = .ok (.getfield 7, 3) := by decide +kernel
theorem dX9_awards_84 : decode cX9_awards 84 = .ok (.iload_n 1, 1) := by decide +kernel
theorem dX9_awards_85 : decode cX9_awards 85 = .ok (.sipush 147, 3) := by decide +kernel
theorem dX9_awards_88 : decode cX9_awards 88 = .ok (.iadd, 1) := by decide +kernel
theorem dX9_awards_89 : decode cX9_awards 89 = .ok (.iload_n 2, 1) := by decide +kernel
theorem dX9_awards_90 : decode cX9_awards 90 = .ok (.iadd, 1) := by decide +kernel
theorem dX9_awards_91 : decode cX9_awards 91 = .ok (.iload 5, 2) := by decide +kernel
theorem dX9_awards_93 : decode cX9_awards 93 = .ok (.iastore, 1) := by decide +kernel
theorem dX9_awards_94 : decode cX9_awards 94 = .ok (.aload_n 0, 1) := by decide +kernel
theorem dX9_awards_95 : decode cX9_awards 95 = .ok (.getfield 7, 3) := by decide +kernel
theorem dX9_awards_98 : decode cX9_awards 98 = .ok (.iload_n 1, 1) := by decide +kernel
theorem dX9_awards_99 : decode cX9_awards 99 = .ok (.iconst 2, 1) := by decide +kernel
theorem dX9_awards_100 : decode cX9_awards 100 = .ok (.iadd, 1) := by decide +kernel
theorem dX9_awards_101 : decode cX9_awards 101 = .ok (.iload_n 3, 1) := by decide +kernel
theorem dX9_awards_102 : decode cX9_awards 102 = .ok (.iadd, 1) := by decide +kernel
theorem dX9_awards_103 : decode cX9_awards 103 = .ok (.dup2, 1) := by decide +kernel
theorem dX9_awards_104 : decode cX9_awards 104 = .ok (.iaload, 1) := by decide +kernel
theorem dX9_awards_105 : decode cX9_awards 105 = .ok (.iload 5, 2) := by decide +kernel
theorem dX9_awards_107 : decode cX9_awards 107 = .ok (.isub, 1) := by decide +kernel
theorem dX9_awards_108 : decode cX9_awards 108 = .ok (.iastore, 1) := by decide +kernel
theorem dX9_awards_109 : decode cX9_awards 109 = .ok (.aload_n 0, 1) := by decide +kernel
theorem dX9_awards_110 : decode cX9_awards 110 = .ok (.getfield 7, 3) := by decide +kernel
theorem dX9_awards_113 : decode cX9_awards 113 = .ok (.iload_n 1, 1) := by decide +kernel
theorem dX9_awards_114 : decode cX9_awards 114 = .ok (.bipush 14, 2) := by decide +kernel
theorem dX9_awards_116 : decode cX9_awards 116 = .ok (.iadd, 1) := by decide +kernel
theorem dX9_awards_117 : decode cX9_awards 117 = .ok (.iload_n 3, 1) := by decide +kernel
theorem dX9_awards_118 : decode cX9_awards 118 = .ok (.iadd, 1) := by decide +kernel
theorem dX9_awards_119 : decode cX9_awards 119 = .ok (.dup2, 1) := by decide +kernel
theorem dX9_awards_120 : decode cX9_awards 120 = .ok (.iaload, 1) := by decide +kernel
theorem dX9_awards_121 : decode cX9_awards 121 = .ok (.iload 5, 2) := by decide +kernel
theorem dX9_awards_123 : decode cX9_awards 123 = .ok (.iadd, 1) := by decide +kernel
theorem dX9_awards_124 : decode cX9_awards 124 = .ok (.iastore, 1) := by decide +kernel
theorem dX9_awards_125 : decode cX9_awards 125 = .ok (.aload_n 0, 1) := by decide +kernel
theorem dX9_awards_126 : decode cX9_awards 126 = .ok (.getfield 7, 3) := by decide +kernel
theorem dX9_awards_129 : decode cX9_awards 129 = .ok (.iload_n 1, 1) := by decide +kernel
theorem dX9_awards_130 : decode cX9_awards 130 = .ok (.bipush 30, 2) := by decide +kernel
theorem dX9_awards_132 : decode cX9_awards 132 = .ok (.iadd, 1) := by decide +kernel
theorem dX9_awards_133 : decode cX9_awards 133 = .ok (.dup2, 1) := by decide +kernel
theorem dX9_awards_134 : decode cX9_awards 134 = .ok (.iaload, 1) := by decide +kernel
theorem dX9_awards_135 : decode cX9_awards 135 = .ok (.iload 5, 2) := by decide +kernel
theorem dX9_awards_137 : decode cX9_awards 137 = .ok (.iadd, 1) := by decide +kernel
theorem dX9_awards_138 : decode cX9_awards 138 = .ok (.iastore, 1) := by decide +kernel
theorem dX9_awards_139 : decode cX9_awards 139 = .ok (.aload_n 0, 1) := by decide +kernel
theorem dX9_awards_140 : decode cX9_awards 140 = .ok (.iload_n 1, 1) := by decide +kernel
theorem dX9_awards_141 : decode cX9_awards 141 = .ok (.iload_n 2, 1) := by decide +kernel
theorem dX9_awards_142 : decode cX9_awards 142 = .ok (.invokevirtual 35, 3) := by decide +kernel
theorem dX9_awards_145 : decode cX9_awards 145 = .ok (.iload_n 3, 1) := by decide +kernel
theorem dX9_awards_146 : decode cX9_awards 146 = .ok (.ireturn, 1) := by decide +kernel
theorem dX9_isDone_0 : decode cX9_isDone 0 = .ok (.iload_n 2, 1) := by decide +kernel
theorem dX9_isDone_1 : decode cX9_isDone 1 = .ok (.aload_n 0, 1) := by decide +kernel
theorem dX9_isDone_2 : decode cX9_isDone 2 = .ok (.getfield 7, 3) := by decide +kernel
theorem dX9_isDone_5 : decode cX9_isDone 5 = .ok (.iload_n 1, 1) := by decide +kernel
theorem dX9_isDone_6 : decode cX9_isDone 6 = .ok (.iconst 1, 1) := by decide +kernel
theorem dX9_isDone_7 : decode cX9_isDone 7 = .ok (.iadd, 1) := by decide +kernel
theorem dX9_isDone_8 : decode cX9_isDone 8 = .ok (.iaload, 1) := by decide +kernel
theorem dX9_isDone_9 : decode cX9_isDone 9 = .ok (.if_icmp .ge 7, 3) := by decide +kernel
theorem dX9_isDone_12 : decode cX9_isDone 12 = .ok (.iconst 1, 1) := by decide +kernel
theorem dX9_isDone_13 : decode cX9_isDone 13 = .ok (.goto 4, 3) := by decide +kernel
theorem dX9_isDone_16 : decode cX9_isDone 16 = .ok (.iconst 0, 1) := by decide +kernel
theorem dX9_isDone_17 : decode cX9_isDone 17 = .ok (.ireturn, 1) := by decide +kernel
theorem dX9_expects_0 : decode cX9_expects 0 = .ok (.sipush 835, 3) := by decide +kernel
theorem dX9_expects_3 : decode cX9_expects 3 = .ok (.iload_n 1, 1) := by decide +kernel
theorem dX9_expects_4 : decode cX9_expects 4 = .ok (.imul, 1) := by decide +kernel
theorem dX9_expects_5 : decode cX9_expects 5 = .ok (.istore 4, 2) := by decide +kernel
theorem dX9_expects_7 : decode cX9_expects 7 = .ok (.iload_n 2, 1) := by decide +kernel
theorem dX9_expects_8 : decode cX9_expects 8 = .ok (.iconst 0, 1) := by decide +kernel
theorem dX9_expects_9 : decode cX9_expects 9 = .ok (.bipush 15, 2) := by decide +kernel
theorem dX9_expects_11 : decode cX9_expects 11 = .ok (.invokestatic 53, 3) := by decide +kernel
theorem dX9_expects_14 : decode cX9_expects 14 = .ok (.ifCond .ne 5, 3) := by decide +kernel
theorem dX9_expects_17 : decode cX9_expects 17 = .ok (.iconst (-1), 1) := by decide +kernel
theorem dX9_expects_18 : decode cX9_expects 18 = .ok (.ireturn, 1) := by decide +kernel
theorem dX9_expects_19 : decode cX9_expects 19 = .ok (.iload_n 3, 1) := by decide +kernel
theorem dX9_expects_20 : decode cX9_expects 20 = .ok (.iconst 0, 1) := by decide +kernel
theorem dX9_expects_21 : decode cX9_expects 21 = .ok (.bipush 99, 2) := by decide +kernel
theorem dX9_expects_23 : decode cX9_expects 23 = .ok (.invokestatic 53, 3) := by decide +kernel
theorem dX9_expects_26 : decode cX9_expects 26 = .ok (.ifCond .ne 6, 3) := by decide +kernel
theorem dX9_expects_29 : decode cX9_expects 29 = .ok (.bipush (-2), 2) := by decide +kernel
theorem dX9_expects_31 : decode cX9_expects 31 = .ok (.ireturn, 1) := by decide +kernel
theorem dX9_expects_32 : decode cX9_expects 32 = .ok (.aload_n 0, 1) := by decide +kernel
theorem dX9_expects_33 : decode cX9_expects 33 = .ok (.iload 4, 2) := by decide +kernel
theorem dX9_expects_35 : decode cX9_expects 35 = .ok (.iload_n 2, 1) := by decide +kernel
theorem dX9_expects_36 : decode cX9_expects 36 = .ok (.invokevirtual 57, 3) := by decide +kernel
theorem dX9_expects_39 : decode cX9_expects 39 = .ok (.ifCond .eq 6, 3) := by decide +kernel
theorem dX9_expects_42 : decode cX9_expects 42 = .ok (.bipush (-4), 2) := by decide +kernel
theorem dX9_expects_44 : decode cX9_expects 44 = .ok (.ireturn, 1) := by decide +kernel
theorem dX9_expects_45 : decode cX9_expects 45 = .ok (.aload_n 0, 1) := by decide +kernel
theorem dX9_expects_46 : decode cX9_expects 46 = .ok (.getfield 7, 3) := by decide +kernel
theorem dX9_expects_49 : decode cX9_expects 49 = .ok (.iload 4, 2) := by decide +kernel
theorem dX9_expects_51 : decode cX9_expects 51 = .ok (.bipush 35, 2) := by decide +kernel
theorem dX9_expects_53 : decode cX9_expects 53 = .ok (.iadd, 1) := by decide +kernel
theorem dX9_expects_54 : decode cX9_expects 54 = .ok (.iload_n 2, 1) := by decide +kernel
theorem dX9_expects_55 : decode cX9_expects 55 = .ok (.iadd, 1) := by decide +kernel
theorem dX9_expects_56 : decode cX9_expects 56 = .ok (.iaload, 1) := by decide +kernel
theorem dX9_expects_57 : decode cX9_expects 57 = .ok (.istore 5, 2) := by decide +kernel
theorem dX9_expects_59 : decode cX9_expects 59 = .ok (.iload 5, 2) := by decide +kernel
theorem dX9_expects_61 : decode cX9_expects 61 = .ok (.iload_n 3, 1) := by decide +kernel
theorem dX9_expects_62 : decode cX9_expects 62 = .ok (.if_icmp .ne 6, 3) := by decide +kernel
theorem dX9_expects_65 : decode cX9_expects 65 = .ok (.bipush (-5), 2) := by decide +kernel
theorem dX9_expects_67 : decode cX9_expects 67 = .ok (.ireturn, 1) := by decide +kernel
theorem dX9_expects_68 : decode cX9_expects 68 = .ok (.aload_n 0, 1) := by decide +kernel
theorem dX9_expects_69 : decode cX9_expects 69 = .ok (.getfield 7, 3) := by decide +kernel
theorem dX9_expects_72 : decode cX9_expects 72 = .ok (.iload 4, 2) := by decide +kernel
theorem dX9_expects_74 : decode cX9_expects 74 = .ok (.bipush 35, 2) := by decide +kernel
theorem dX9_expects_76 : decode cX9_expects 76 = .ok (.iadd, 1) := by decide +kernel
theorem dX9_expects_77 : decode cX9_expects 77 = .ok (.iload_n 2, 1) := by decide +kernel
theorem dX9_expects_78 : decode cX9_expects 78 = .ok (.iadd, 1) := by decide +kernel
theorem dX9_expects_79 : decode cX9_expects 79 = .ok (.iload_n 3, 1) := by decide +kernel
theorem dX9_expects_80 : decode cX9_expects 80 = .ok (.iastore, 1) := by decide +kernel
theorem dX9_expects_81 : decode cX9_expects 81 = .ok (.iload 5, 2) := by decide +kernel
theorem dX9_expects_83 : decode cX9_expects 83 = .ok (.ireturn, 1) := by decide +kernel
theorem dX9_wrong_0 : decode cX9_wrong 0 = .ok (.iload_n 2, 1) := by decide +kernel
theorem dX9_wrong_1 : decode cX9_wrong 1 = .ok (.iconst 0, 1) := by decide +kernel
theorem dX9_wrong_2 : decode cX9_wrong 2 = .ok (.iconst 5, 1) := by decide +kernel
theorem dX9_wrong_3 : decode cX9_wrong 3 = .ok (.invokestatic 53, 3) := by decide +kernel
theorem dX9_wrong_6 : decode cX9_wrong 6 = .ok (.ifCond .eq 23, 3) := by decide +kernel
theorem dX9_wrong_9 : decode cX9_wrong 9 = .ok (.iload_n 3, 1) := by decide +kernel
theorem dX9_wrong_10 : decode cX9_wrong 10 = .ok (.iconst 0, 1) := by decide +kernel
theorem dX9_wrong_11 : decode cX9_wrong 11 = .ok (.iconst 2, 1) := by decide +kernel
theorem dX9_wrong_12 : decode cX9_wrong 12 = .ok (.invokestatic 53, 3) := by decide +kernel
theorem dX9_wrong_15 : decode cX9_wrong 15 = .ok (.ifCond .eq 14, 3) := by decide +kernel
theorem dX9_wrong_18 : decode cX9_wrong 18 = .ok (.iload 4, 2) := by decide +kernel
theorem dX9_wrong_20 : decode cX9_wrong 20 = .ok (.iconst 0, 1) := by decide +kernel
theorem dX9_wrong_21 : decode cX9_wrong 21 = .ok (.bipush 15, 2) := by decide +kernel
theorem dX9_wrong_23 : decode cX9_wrong 23 = .ok (.invokestatic 53, 3) := by decide +kernel
theorem dX9_wrong_26 : decode cX9_wrong 26 = .ok (.ifCond .ne 5, 3) := by decide +kernel
theorem dX9_wrong_29 : decode cX9_wrong 29 = .ok (.iconst (-1), 1) := by decide +kernel
theorem dX9_wrong_30 : decode cX9_wrong 30 = .ok (.ireturn, 1) := by decide +kernel
theorem dX9_wrong_31 : decode cX9_wrong 31 = .ok (.iload 5, 2) := by decide +kernel
theorem dX9_wrong_33 : decode cX9_wrong 33 = .ok (.iconst 1, 1) := by decide +kernel
theorem dX9_wrong_34 : decode cX9_wrong 34 = .ok (.iload_n 3, 1) := by decide +kernel
theorem dX9_wrong_35 : decode cX9_wrong 35 = .ok (.invokestatic 60, 3) := by decide +kernel
theorem dX9_wrong_38 : decode cX9_wrong 38 = .ok (.invokestatic 53, 3) := by decide +kernel
theorem dX9_wrong_41 : decode cX9_wrong 41 = .ok (.ifCond .eq 15, 3) := by decide +kernel
theorem dX9_wrong_44 : decode cX9_wrong 44 = .ok (.iload 6, 2) := by decide +kernel
theorem dX9_wrong_46 : decode cX9_wrong 46 = .ok (.iconst 1, 1) := by decide +kernel
theorem dX9_wrong_47 : decode cX9_wrong 47 = .ok (.sipush 999, 3) := by decide +kernel
theorem dX9_wrong_50 : decode cX9_wrong 50 = .ok (.invokestatic 53, 3) := by decide +kernel
theorem dX9_wrong_53 : decode cX9_wrong 53 = .ok (.ifCond .ne 6, 3) := by decide +kernel
theorem dX9_wrong_56 : decode cX9_wrong 56 = .ok (.bipush (-2), 2) := by decide +kernel
theorem dX9_wrong_58 : decode cX9_wrong 58 = .ok (.ireturn, 1) := by decide +kernel
theorem dX9_wrong_59 : decode cX9_wrong 59 = .ok (.iload_n 3, 1) := by decide +kernel
theorem dX9_wrong_60 : decode cX9_wrong 60 = .ok (.iload 4, 2) := by decide +kernel
theorem dX9_wrong_62 : decode cX9_wrong 62 = .ok (.invokestatic 64, 3) := by decide +kernel
theorem dX9_wrong_65 : decode cX9_wrong 65 = .ok (.istore 7, 2) := by decide +kernel
theorem dX9_wrong_67 : decode cX9_wrong 67 = .ok (.aload_n 0, 1) := by decide +kernel
theorem dX9_wrong_68 : decode cX9_wrong 68 = .ok (.iload_n 1, 1) := by decide +kernel
theorem dX9_wrong_69 : decode cX9_wrong 69 = .ok (.iload 4, 2) := by decide +kernel
theorem dX9_wrong_71 : decode cX9_wrong 71 = .ok (.invokevirtual 57, 3) := by decide +kernel
theorem dX9_wrong_74 : decode cX9_wrong 74 = .ok (.ifCond .ne 39, 3) := by decide +kernel
theorem dX9_wrong_77 : decode cX9_wrong 77 = .ok (.aload_n 0, 1) := by decide +kernel
theorem dX9_wrong_78 : decode cX9_wrong 78 = .ok (.getfield 7, 3) := by decide +kernel
theorem dX9_wrong_81 : decode cX9_wrong 81 = .ok (.iload_n 1, 1) := by decide +kernel
theorem dX9_wrong_82 : decode cX9_wrong 82 = .ok (.bipush 51, 2) := by decide +kernel
theorem dX9_wrong_84 : decode cX9_wrong 84 = .ok (.iadd, 1) := by decide +kernel
theorem dX9_wrong_85 : decode cX9_wrong 85 = .ok (.iload 7, 2) := by decide +kernel
theorem dX9_wrong_87 : decode cX9_wrong 87 = .ok (.iadd, 1) := by decide +kernel
theorem dX9_wrong_88 : decode cX9_wrong 88 = .ok (.iaload, 1) := by decide +kernel
theorem dX9_wrong_89 : decode cX9_wrong 89 = .ok (.ifCond .ge 24, 3) := by decide +kernel
theorem dX9_wrong_92 : decode cX9_wrong 92 = .ok (.aload_n 0, 1) := by decide +kernel
theorem dX9_wrong_93 : decode cX9_wrong 93 = .ok (.getfield 7, 3) := by decide +kernel
theorem dX9_wrong_96 : decode cX9_wrong 96 = .ok (.iload_n 1, 1) := by decide +kernel
theorem dX9_wrong_97 : decode cX9_wrong 97 = .ok (.sipush 531, 3) := by decide +kernel
theorem dX9_wrong_100 : decode cX9_wrong 100 = .ok (.iadd, 1) := by decide +kernel
theorem dX9_wrong_101 : decode cX9_wrong 101 = .ok (.bipush 6, 2) := by decide +kernel
theorem dX9_wrong_103 : decode cX9_wrong 103 = .ok (.iload 7, 2) := by decide +kernel
theorem dX9_wrong_105 : decode cX9_wrong 105 = .ok (.imul, 1) := by decide +kernel
theorem dX9_wrong_106 : decode cX9_wrong 106 = .ok (.iadd, 1) := by decide +kernel
theorem dX9_wrong_107 : decode cX9_wrong 107 = .ok (.iload_n 2, 1) := by decide +kernel
theorem dX9_wrong_108 : decode cX9_wrong 108 = .ok (.iadd, 1) := by decide +kernel
theorem dX9_wrong_109 : decode cX9_wrong 109 = .ok (.iaload, 1) := by decide +kernel
theorem dX9_wrong_110 : decode cX9_wrong 110 = .ok (.ifCond .le 6, 3) := by decide +kernel
theorem dX9_wrong_113 : decode cX9_wrong 113 = .ok (.bipush (-4), 2) := by decide +kernel
theorem dX9_wrong_115 : decode cX9_wrong 115 = .ok (.ireturn, 1) := by decide +kernel
theorem dX9_wrong_116 : decode cX9_wrong 116 = .ok (.aload_n 0, 1) := by decide +kernel
theorem dX9_wrong_117 : decode cX9_wrong 117 = .ok (.getfield 7, 3) := by decide +kernel
theorem dX9_wrong_120 : decode cX9_wrong 120 = .ok (.iload_n 1, 1) := by decide +kernel
theorem dX9_wrong_121 : decode cX9_wrong 121 = .ok (.iconst 2, 1) := by decide +kernel
theorem dX9_wrong_122 : decode cX9_wrong 122 = .ok (.iadd, 1) := by decide +kernel
theorem dX9_wrong_123 : decode cX9_wrong 123 = .ok (.iload_n 2, 1) := by decide +kernel
theorem dX9_wrong_124 : decode cX9_wrong 124 = .ok (.iadd, 1) := by decide +kernel
theorem dX9_wrong_125 : decode cX9_wrong 125 = .ok (.iaload, 1) := by decide +kernel
theorem dX9_wrong_126 : decode cX9_wrong 126 = .ok (.aload_n 0, 1) := by decide +kernel
theorem dX9_wrong_127 : decode cX9_wrong 127 = .ok (.iload_n 1, 1) := by decide +kernel
theorem dX9_wrong_128 : decode cX9_wrong 128 = .ok (.iload_n 2, 1) := by decide +kernel
theorem dX9_wrong_129 : decode cX9_wrong 129 = .ok (.invokevirtual 67, 3) := by decide +kernel
theorem dX9_wrong_132 : decode cX9_wrong 132 = .ok (.isub, 1) := by decide +kernel
theorem dX9_wrong_133 : decode cX9_wrong 133 = .ok (.iload 6, 2) := by decide +kernel
theorem dX9_wrong_135 : decode cX9_wrong 135 = .ok (.if_icmp .ge 6, 3) := by decide +kernel
theorem dX9_wrong_138 : decode cX9_wrong 138 = .ok (.bipush (-6), 2) := by decide +kernel
theorem dX9_wrong_140 : decode cX9_wrong 140 = .ok (.ireturn, 1) := by decide +kernel
theorem dX9_wrong_141 : decode cX9_wrong 141 = .ok (.aload_n 0, 1) := by decide +kernel
theorem dX9_wrong_142 : decode cX9_wrong 142 = .ok (.iload_n 1, 1) := by decide +kernel
theorem dX9_wrong_143 : decode cX9_wrong 143 = .ok (.invokevirtual 70, 3) := by decide +kernel
theorem dX9_wrong_146 : decode cX9_wrong 146 = .ok (.bipush 60, 2) := by decide +kernel
theorem dX9_wrong_148 : decode cX9_wrong 148 = .ok (.if_icmp .ne 8, 3) := by decide +kernel
theorem dX9_wrong_151 : decode cX9_wrong 151 = .ok (.bipush (-3), 2) := by decide +kernel
theorem dX9_wrong_153 : decode cX9_wrong 153 = .ok (.goto 4, 3) := by decide +kernel
theorem dX9_wrong_156 : decode cX9_wrong 156 = .ok (.iconst 0, 1) := by decide +kernel
theorem dX9_wrong_157 : decode cX9_wrong 157 = .ok (.ireturn, 1) := by decide +kernel
theorem dX9_bidsBy_0 : decode cX9_bidsBy 0 = .ok (.sipush 835, 3) := by decide +kernel
theorem dX9_bidsBy_3 : decode cX9_bidsBy 3 = .ok (.iload_n 1, 1) := by decide +kernel
theorem dX9_bidsBy_4 : decode cX9_bidsBy 4 = .ok (.imul, 1) := by decide +kernel
theorem dX9_bidsBy_5 : decode cX9_bidsBy 5 = .ok (.istore 7, 2) := by decide +kernel
theorem dX9_bidsBy_7 : decode cX9_bidsBy 7 = .ok (.aload_n 0, 1) := by decide +kernel
theorem dX9_bidsBy_8 : decode cX9_bidsBy 8 = .ok (.iload 7, 2) := by decide +kernel
theorem dX9_bidsBy_10 : decode cX9_bidsBy 10 = .ok (.iload_n 2, 1) := by decide +kernel
theorem dX9_bidsBy_11 : decode cX9_bidsBy 11 = .ok (.iload_n 3, 1) := by decide +kernel
theorem dX9_bidsBy_12 : decode cX9_bidsBy 12 = .ok (.iload 4, 2) := by decide +kernel
theorem dX9_bidsBy_14 : decode cX9_bidsBy 14 = .ok (.iload 5, 2) := by decide +kernel
theorem dX9_bidsBy_16 : decode cX9_bidsBy 16 = .ok (.iload 6, 2) := by decide +kernel
theorem dX9_bidsBy_18 : decode cX9_bidsBy 18 = .ok (.invokevirtual 73, 3) := by decide +kernel
theorem dX9_bidsBy_21 : decode cX9_bidsBy 21 = .ok (.istore 8, 2) := by decide +kernel
theorem dX9_bidsBy_23 : decode cX9_bidsBy 23 = .ok (.iload 8, 2) := by decide +kernel
theorem dX9_bidsBy_25 : decode cX9_bidsBy 25 = .ok (.ifCond .ge 6, 3) := by decide +kernel
theorem dX9_bidsBy_28 : decode cX9_bidsBy 28 = .ok (.iload 8, 2) := by decide +kernel
theorem dX9_bidsBy_30 : decode cX9_bidsBy 30 = .ok (.ireturn, 1) := by decide +kernel
theorem dX9_bidsBy_31 : decode cX9_bidsBy 31 = .ok (.iload_n 3, 1) := by decide +kernel
theorem dX9_bidsBy_32 : decode cX9_bidsBy 32 = .ok (.iload 4, 2) := by decide +kernel
theorem dX9_bidsBy_34 : decode cX9_bidsBy 34 = .ok (.invokestatic 64, 3) := by decide +kernel
theorem dX9_bidsBy_37 : decode cX9_bidsBy 37 = .ok (.istore 9, 2) := by decide +kernel
theorem dX9_bidsBy_39 : decode cX9_bidsBy 39 = .ok (.aload_n 0, 1) := by decide +kernel
theorem dX9_bidsBy_40 : decode cX9_bidsBy 40 = .ok (.getfield 7, 3) := by decide +kernel
theorem dX9_bidsBy_43 : decode cX9_bidsBy 43 = .ok (.iload 7, 2) := by decide +kernel
theorem dX9_bidsBy_45 : decode cX9_bidsBy 45 = .ok (.sipush 243, 3) := by decide +kernel
theorem dX9_bidsBy_48 : decode cX9_bidsBy 48 = .ok (.iadd, 1) := by decide +kernel
theorem dX9_bidsBy_49 : decode cX9_bidsBy 49 = .ok (.bipush 6, 2) := by decide +kernel
theorem dX9_bidsBy_51 : decode cX9_bidsBy 51 = .ok (.iload 9, 2) := by decide +kernel
theorem dX9_bidsBy_53 : decode cX9_bidsBy 53 = .ok (.imul, 1) := by decide +kernel
theorem dX9_bidsBy_54 : decode cX9_bidsBy 54 = .ok (.iadd, 1) := by decide +kernel
theorem dX9_bidsBy_55 : decode cX9_bidsBy 55 = .ok (.iload_n 2, 1) := by decide +kernel
theorem dX9_bidsBy_56 : decode cX9_bidsBy 56 = .ok (.iadd, 1) := by decide +kernel
theorem dX9_bidsBy_57 : decode cX9_bidsBy 57 = .ok (.iload 5, 2) := by decide +kernel
theorem dX9_bidsBy_59 : decode cX9_bidsBy 59 = .ok (.iastore, 1) := by decide +kernel
theorem dX9_bidsBy_60 : decode cX9_bidsBy 60 = .ok (.aload_n 0, 1) := by decide +kernel
theorem dX9_bidsBy_61 : decode cX9_bidsBy 61 = .ok (.getfield 7, 3) := by decide +kernel
theorem dX9_bidsBy_64 : decode cX9_bidsBy 64 = .ok (.iload 7, 2) := by decide +kernel
theorem dX9_bidsBy_66 : decode cX9_bidsBy 66 = .ok (.sipush 531, 3) := by decide +kernel
theorem dX9_bidsBy_69 : decode cX9_bidsBy 69 = .ok (.iadd, 1) := by decide +kernel
theorem dX9_bidsBy_70 : decode cX9_bidsBy 70 = .ok (.bipush 6, 2) := by decide +kernel
theorem dX9_bidsBy_72 : decode cX9_bidsBy 72 = .ok (.iload 9, 2) := by decide +kernel
theorem dX9_bidsBy_74 : decode cX9_bidsBy 74 = .ok (.imul, 1) := by decide +kernel
theorem dX9_bidsBy_75 : decode cX9_bidsBy 75 = .ok (.iadd, 1) := by decide +kernel
theorem dX9_bidsBy_76 : decode cX9_bidsBy 76 = .ok (.iload_n 2, 1) := by decide +kernel
theorem dX9_bidsBy_77 : decode cX9_bidsBy 77 = .ok (.iadd, 1) := by decide +kernel
theorem dX9_bidsBy_78 : decode cX9_bidsBy 78 = .ok (.iload 6, 2) := by decide +kernel
theorem dX9_bidsBy_80 : decode cX9_bidsBy 80 = .ok (.iastore, 1) := by decide +kernel
theorem dX9_bidsBy_81 : decode cX9_bidsBy 81 = .ok (.aload_n 0, 1) := by decide +kernel
theorem dX9_bidsBy_82 : decode cX9_bidsBy 82 = .ok (.iload 7, 2) := by decide +kernel
theorem dX9_bidsBy_84 : decode cX9_bidsBy 84 = .ok (.iload 9, 2) := by decide +kernel
theorem dX9_bidsBy_86 : decode cX9_bidsBy 86 = .ok (.invokevirtual 38, 3) := by decide +kernel
theorem dX9_bidsBy_89 : decode cX9_bidsBy 89 = .ok (.ireturn, 1) := by decide +kernel
theorem dX9_goesOn_0 : decode cX9_goesOn 0 = .ok (.aload_n 0, 1) := by decide +kernel
theorem dX9_goesOn_1 : decode cX9_goesOn 1 = .ok (.getfield 7, 3) := by decide +kernel
theorem dX9_goesOn_4 : decode cX9_goesOn 4 = .ok (.iload_n 1, 1) := by decide +kernel
theorem dX9_goesOn_5 : decode cX9_goesOn 5 = .ok (.bipush 51, 2) := by decide +kernel
theorem dX9_goesOn_7 : decode cX9_goesOn 7 = .ok (.iadd, 1) := by decide +kernel
theorem dX9_goesOn_8 : decode cX9_goesOn 8 = .ok (.iload_n 2, 1) := by decide +kernel
theorem dX9_goesOn_9 : decode cX9_goesOn 9 = .ok (.iadd, 1) := by decide +kernel
theorem dX9_goesOn_10 : decode cX9_goesOn 10 = .ok (.iaload, 1) := by decide +kernel
theorem dX9_goesOn_11 : decode cX9_goesOn 11 = .ok (.istore 5, 2) := by decide +kernel
theorem dX9_goesOn_13 : decode cX9_goesOn 13 = .ok (.iload 5, 2) := by decide +kernel
theorem dX9_goesOn_15 : decode cX9_goesOn 15 = .ok (.ifCond .ge 16, 3) := by decide +kernel
theorem dX9_goesOn_18 : decode cX9_goesOn 18 = .ok (.iload 4, 2) := by decide +kernel
theorem dX9_goesOn_20 : decode cX9_goesOn 20 = .ok (.ifCond .ne 7, 3) := by decide +kernel
theorem dX9_goesOn_23 : decode cX9_goesOn 23 = .ok (.iconst 1, 1) := by decide +kernel
theorem dX9_goesOn_24 : decode cX9_goesOn 24 = .ok (.goto 30, 3) := by decide +kernel
theorem dX9_goesOn_27 : decode cX9_goesOn 27 = .ok (.iconst 2, 1) := by decide +kernel
theorem dX9_goesOn_28 : decode cX9_goesOn 28 = .ok (.goto 26, 3) := by decide +kernel
theorem dX9_goesOn_31 : decode cX9_goesOn 31 = .ok (.aload_n 0, 1) := by decide +kernel
theorem dX9_goesOn_32 : decode cX9_goesOn 32 = .ok (.getfield 7, 3) := by decide +kernel
theorem dX9_goesOn_35 : decode cX9_goesOn 35 = .ok (.iload_n 1, 1) := by decide +kernel
theorem dX9_goesOn_36 : decode cX9_goesOn 36 = .ok (.bipush 99, 2) := by decide +kernel
theorem dX9_goesOn_38 : decode cX9_goesOn 38 = .ok (.iadd, 1) := by decide +kernel
theorem dX9_goesOn_39 : decode cX9_goesOn 39 = .ok (.iload_n 2, 1) := by decide +kernel
theorem dX9_goesOn_40 : decode cX9_goesOn 40 = .ok (.iadd, 1) := by decide +kernel
theorem dX9_goesOn_41 : decode cX9_goesOn 41 = .ok (.iaload, 1) := by decide +kernel
theorem dX9_goesOn_42 : decode cX9_goesOn 42 = .ok (.iload_n 3, 1) := by decide +kernel
theorem dX9_goesOn_43 : decode cX9_goesOn 43 = .ok (.invokestatic 42, 3) := by decide +kernel
theorem dX9_goesOn_46 : decode cX9_goesOn 46 = .ok (.ifCond .eq 7, 3) := by decide +kernel
theorem dX9_goesOn_49 : decode cX9_goesOn 49 = .ok (.iconst 0, 1) := by decide +kernel
theorem dX9_goesOn_50 : decode cX9_goesOn 50 = .ok (.goto 4, 3) := by decide +kernel
theorem dX9_goesOn_53 : decode cX9_goesOn 53 = .ok (.iconst 3, 1) := by decide +kernel
theorem dX9_goesOn_54 : decode cX9_goesOn 54 = .ok (.istore 6, 2) := by decide +kernel
theorem dX9_goesOn_56 : decode cX9_goesOn 56 = .ok (.aload_n 0, 1) := by decide +kernel
theorem dX9_goesOn_57 : decode cX9_goesOn 57 = .ok (.getfield 7, 3) := by decide +kernel
theorem dX9_goesOn_60 : decode cX9_goesOn 60 = .ok (.iload_n 1, 1) := by decide +kernel
theorem dX9_goesOn_61 : decode cX9_goesOn 61 = .ok (.sipush 195, 3) := by decide +kernel
theorem dX9_goesOn_64 : decode cX9_goesOn 64 = .ok (.iadd, 1) := by decide +kernel
theorem dX9_goesOn_65 : decode cX9_goesOn 65 = .ok (.iload_n 2, 1) := by decide +kernel
theorem dX9_goesOn_66 : decode cX9_goesOn 66 = .ok (.iadd, 1) := by decide +kernel
theorem dX9_goesOn_67 : decode cX9_goesOn 67 = .ok (.iload 6, 2) := by decide +kernel
theorem dX9_goesOn_69 : decode cX9_goesOn 69 = .ok (.iastore, 1) := by decide +kernel
theorem dX9_goesOn_70 : decode cX9_goesOn 70 = .ok (.iload 6, 2) := by decide +kernel
theorem dX9_goesOn_72 : decode cX9_goesOn 72 = .ok (.ifCond .ne 58, 3) := by decide +kernel
theorem dX9_goesOn_75 : decode cX9_goesOn 75 = .ok (.aload_n 0, 1) := by decide +kernel
theorem dX9_goesOn_76 : decode cX9_goesOn 76 = .ok (.getfield 7, 3) := by decide +kernel
theorem dX9_goesOn_79 : decode cX9_goesOn 79 = .ok (.iload_n 1, 1) := by decide +kernel
theorem dX9_goesOn_80 : decode cX9_goesOn 80 = .ok (.bipush 26, 2) := by decide +kernel
theorem dX9_goesOn_82 : decode cX9_goesOn 82 = .ok (.iadd, 1) := by decide +kernel
theorem dX9_goesOn_83 : decode cX9_goesOn 83 = .ok (.dup2, 1) := by decide +kernel
theorem dX9_goesOn_84 : decode cX9_goesOn 84 = .ok (.iaload, 1) := by decide +kernel
theorem dX9_goesOn_85 : decode cX9_goesOn 85 = .ok (.iconst 1, 1) := by decide +kernel
theorem dX9_goesOn_86 : decode cX9_goesOn 86 = .ok (.iadd, 1) := by decide +kernel
theorem dX9_goesOn_87 : decode cX9_goesOn 87 = .ok (.iastore, 1) := by decide +kernel
theorem dX9_goesOn_88 : decode cX9_goesOn 88 = .ok (.aload_n 0, 1) := by decide +kernel
theorem dX9_goesOn_89 : decode cX9_goesOn 89 = .ok (.getfield 7, 3) := by decide +kernel
theorem dX9_goesOn_92 : decode cX9_goesOn 92 = .ok (.iload_n 1, 1) := by decide +kernel
theorem dX9_goesOn_93 : decode cX9_goesOn 93 = .ok (.bipush 8, 2) := by decide +kernel
theorem dX9_goesOn_95 : decode cX9_goesOn 95 = .ok (.iadd, 1) := by decide +kernel
theorem dX9_goesOn_96 : decode cX9_goesOn 96 = .ok (.iload 5, 2) := by decide +kernel
theorem dX9_goesOn_98 : decode cX9_goesOn 98 = .ok (.iadd, 1) := by decide +kernel
theorem dX9_goesOn_99 : decode cX9_goesOn 99 = .ok (.dup2, 1) := by decide +kernel
theorem dX9_goesOn_100 : decode cX9_goesOn 100 = .ok (.iaload, 1) := by decide +kernel
theorem dX9_goesOn_101 : decode cX9_goesOn 101 = .ok (.iconst 1, 1) := by decide +kernel
theorem dX9_goesOn_102 : decode cX9_goesOn 102 = .ok (.iadd, 1) := by decide +kernel
theorem dX9_goesOn_103 : decode cX9_goesOn 103 = .ok (.iastore, 1) := by decide +kernel
theorem dX9_goesOn_104 : decode cX9_goesOn 104 = .ok (.aload_n 0, 1) := by decide +kernel
theorem dX9_goesOn_105 : decode cX9_goesOn 105 = .ok (.getfield 7, 3) := by decide +kernel
theorem dX9_goesOn_108 : decode cX9_goesOn 108 = .ok (.iload_n 1, 1) := by decide +kernel
theorem dX9_goesOn_109 : decode cX9_goesOn 109 = .ok (.bipush 34, 2) := by decide +kernel
theorem dX9_goesOn_111 : decode cX9_goesOn 111 = .ok (.iadd, 1) := by decide +kernel
theorem dX9_goesOn_112 : decode cX9_goesOn 112 = .ok (.dup2, 1) := by decide +kernel
theorem dX9_goesOn_113 : decode cX9_goesOn 113 = .ok (.iaload, 1) := by decide +kernel
theorem dX9_goesOn_114 : decode cX9_goesOn 114 = .ok (.aload_n 0, 1) := by decide +kernel
theorem dX9_goesOn_115 : decode cX9_goesOn 115 = .ok (.getfield 7, 3) := by decide +kernel
theorem dX9_goesOn_118 : decode cX9_goesOn 118 = .ok (.iload_n 1, 1) := by decide +kernel
theorem dX9_goesOn_119 : decode cX9_goesOn 119 = .ok (.bipush 99, 2) := by decide +kernel
theorem dX9_goesOn_121 : decode cX9_goesOn 121 = .ok (.iadd, 1) := by decide +kernel
theorem dX9_goesOn_122 : decode cX9_goesOn 122 = .ok (.iload_n 2, 1) := by decide +kernel
theorem dX9_goesOn_123 : decode cX9_goesOn 123 = .ok (.iadd, 1) := by decide +kernel
theorem dX9_goesOn_124 : decode cX9_goesOn 124 = .ok (.iaload, 1) := by decide +kernel
theorem dX9_goesOn_125 : decode cX9_goesOn 125 = .ok (.iadd, 1) := by decide +kernel
theorem dX9_goesOn_126 : decode cX9_goesOn 126 = .ok (.iastore, 1) := by decide +kernel
theorem dX9_goesOn_127 : decode cX9_goesOn 127 = .ok (.goto 21, 3) := by decide +kernel
theorem dX9_goesOn_130 : decode cX9_goesOn 130 = .ok (.aload_n 0, 1) := by decide +kernel
theorem dX9_goesOn_131 : decode cX9_goesOn 131 = .ok (.getfield 7, 3) := by decide +kernel
theorem dX9_goesOn_134 : decode cX9_goesOn 134 = .ok (.iload_n 1, 1) := by decide +kernel
theorem dX9_goesOn_135 : decode cX9_goesOn 135 = .ok (.bipush 27, 2) := by decide +kernel
theorem dX9_goesOn_137 : decode cX9_goesOn 137 = .ok (.iadd, 1) := by decide +kernel
theorem dX9_goesOn_138 : decode cX9_goesOn 138 = .ok (.iload 6, 2) := by decide +kernel
theorem dX9_goesOn_140 : decode cX9_goesOn 140 = .ok (.iadd, 1) := by decide +kernel
theorem dX9_goesOn_141 : decode cX9_goesOn 141 = .ok (.iconst 1, 1) := by decide +kernel
theorem dX9_goesOn_142 : decode cX9_goesOn 142 = .ok (.isub, 1) := by decide +kernel
theorem dX9_goesOn_143 : decode cX9_goesOn 143 = .ok (.dup2, 1) := by decide +kernel
theorem dX9_goesOn_144 : decode cX9_goesOn 144 = .ok (.iaload, 1) := by decide +kernel
theorem dX9_goesOn_145 : decode cX9_goesOn 145 = .ok (.iconst 1, 1) := by decide +kernel
theorem dX9_goesOn_146 : decode cX9_goesOn 146 = .ok (.iadd, 1) := by decide +kernel
theorem dX9_goesOn_147 : decode cX9_goesOn 147 = .ok (.iastore, 1) := by decide +kernel
theorem dX9_goesOn_148 : decode cX9_goesOn 148 = .ok (.iload 6, 2) := by decide +kernel
theorem dX9_goesOn_150 : decode cX9_goesOn 150 = .ok (.iconst 3, 1) := by decide +kernel
theorem dX9_goesOn_151 : decode cX9_goesOn 151 = .ok (.if_icmp .ne 78, 3) := by decide +kernel
theorem dX9_goesOn_154 : decode cX9_goesOn 154 = .ok (.aload_n 0, 1) := by decide +kernel
theorem dX9_goesOn_155 : decode cX9_goesOn 155 = .ok (.getfield 7, 3) := by decide +kernel
theorem dX9_goesOn_158 : decode cX9_goesOn 158 = .ok (.iload_n 1, 1) := by decide +kernel
theorem dX9_goesOn_159 : decode cX9_goesOn 159 = .ok (.sipush 147, 3) := by decide +kernel
theorem dX9_goesOn_162 : decode cX9_goesOn 162 = .ok (.iadd, 1) := by decide +kernel
theorem dX9_goesOn_163 : decode cX9_goesOn 163 = .ok (.iload_n 2, 1) := by decide +kernel
theorem dX9_goesOn_164 : decode cX9_goesOn 164 = .ok (.iadd, 1) := by decide +kernel
theorem dX9_goesOn_165 : decode cX9_goesOn 165 = .ok (.iaload, 1) := by decide +kernel
theorem dX9_goesOn_166 : decode cX9_goesOn 166 = .ok (.istore 7, 2) := by decide +kernel
theorem dX9_goesOn_168 : decode cX9_goesOn 168 = .ok (.aload_n 0, 1) := by decide +kernel
theorem dX9_goesOn_169 : decode cX9_goesOn 169 = .ok (.getfield 7, 3) := by decide +kernel
theorem dX9_goesOn_172 : decode cX9_goesOn 172 = .ok (.iload_n 1, 1) := by decide +kernel
theorem dX9_goesOn_173 : decode cX9_goesOn 173 = .ok (.iconst 2, 1) := by decide +kernel
theorem dX9_goesOn_174 : decode cX9_goesOn 174 = .ok (.iadd, 1) := by decide +kernel
theorem dX9_goesOn_175 : decode cX9_goesOn 175 = .ok (.iload 5, 2) := by decide +kernel
theorem dX9_goesOn_177 : decode cX9_goesOn 177 = .ok (.iadd, 1) := by decide +kernel
theorem dX9_goesOn_178 : decode cX9_goesOn 178 = .ok (.dup2, 1) := by decide +kernel
theorem dX9_goesOn_179 : decode cX9_goesOn 179 = .ok (.iaload, 1) := by decide +kernel
theorem dX9_goesOn_180 : decode cX9_goesOn 180 = .ok (.iload 7, 2) := by decide +kernel
theorem dX9_goesOn_182 : decode cX9_goesOn 182 = .ok (.iadd, 1) := by decide +kernel
theorem dX9_goesOn_183 : decode cX9_goesOn 183 = .ok (.iastore, 1) := by decide +kernel
theorem dX9_goesOn_184 : decode cX9_goesOn 184 = .ok (.aload_n 0, 1) := by decide +kernel
theorem dX9_goesOn_185 : decode cX9_goesOn 185 = .ok (.getfield 7, 3) := by decide +kernel
theorem dX9_goesOn_188 : decode cX9_goesOn 188 = .ok (.iload_n 1, 1) := by decide +kernel
theorem dX9_goesOn_189 : decode cX9_goesOn 189 = .ok (.bipush 14, 2) := by decide +kernel
theorem dX9_goesOn_191 : decode cX9_goesOn 191 = .ok (.iadd, 1) := by decide +kernel
theorem dX9_goesOn_192 : decode cX9_goesOn 192 = .ok (.iload 5, 2) := by decide +kernel
theorem dX9_goesOn_194 : decode cX9_goesOn 194 = .ok (.iadd, 1) := by decide +kernel
theorem dX9_goesOn_195 : decode cX9_goesOn 195 = .ok (.dup2, 1) := by decide +kernel
theorem dX9_goesOn_196 : decode cX9_goesOn 196 = .ok (.iaload, 1) := by decide +kernel
theorem dX9_goesOn_197 : decode cX9_goesOn 197 = .ok (.iload 7, 2) := by decide +kernel
theorem dX9_goesOn_199 : decode cX9_goesOn 199 = .ok (.isub, 1) := by decide +kernel
theorem dX9_goesOn_200 : decode cX9_goesOn 200 = .ok (.iastore, 1) := by decide +kernel
theorem dX9_goesOn_201 : decode cX9_goesOn 201 = .ok (.aload_n 0, 1) := by decide +kernel
theorem dX9_goesOn_202 : decode cX9_goesOn 202 = .ok (.getfield 7, 3) := by decide +kernel
theorem dX9_goesOn_205 : decode cX9_goesOn 205 = .ok (.iload_n 1, 1) := by decide +kernel
theorem dX9_goesOn_206 : decode cX9_goesOn 206 = .ok (.bipush 30, 2) := by decide +kernel
theorem dX9_goesOn_208 : decode cX9_goesOn 208 = .ok (.iadd, 1) := by decide +kernel
theorem dX9_goesOn_209 : decode cX9_goesOn 209 = .ok (.dup2, 1) := by decide +kernel
theorem dX9_goesOn_210 : decode cX9_goesOn 210 = .ok (.iaload, 1) := by decide +kernel
theorem dX9_goesOn_211 : decode cX9_goesOn 211 = .ok (.iload 7, 2) := by decide +kernel
theorem dX9_goesOn_213 : decode cX9_goesOn 213 = .ok (.isub, 1) := by decide +kernel
theorem dX9_goesOn_214 : decode cX9_goesOn 214 = .ok (.iastore, 1) := by decide +kernel
theorem dX9_goesOn_215 : decode cX9_goesOn 215 = .ok (.aload_n 0, 1) := by decide +kernel
theorem dX9_goesOn_216 : decode cX9_goesOn 216 = .ok (.getfield 7, 3) := by decide +kernel
theorem dX9_goesOn_219 : decode cX9_goesOn 219 = .ok (.iload_n 1, 1) := by decide +kernel
theorem dX9_goesOn_220 : decode cX9_goesOn 220 = .ok (.bipush 31, 2) := by decide +kernel
theorem dX9_goesOn_222 : decode cX9_goesOn 222 = .ok (.iadd, 1) := by decide +kernel
theorem dX9_goesOn_223 : decode cX9_goesOn 223 = .ok (.dup2, 1) := by decide +kernel
theorem dX9_goesOn_224 : decode cX9_goesOn 224 = .ok (.iaload, 1) := by decide +kernel
theorem dX9_goesOn_225 : decode cX9_goesOn 225 = .ok (.iload 7, 2) := by decide +kernel
theorem dX9_goesOn_227 : decode cX9_goesOn 227 = .ok (.iadd, 1) := by decide +kernel
theorem dX9_goesOn_228 : decode cX9_goesOn 228 = .ok (.iastore, 1) := by decide +kernel
theorem dX9_goesOn_229 : decode cX9_goesOn 229 = .ok (.return_, 1) := by decide +kernel
theorem dX9_does_0 : decode cX9_does 0 = .ok (.sipush 835, 3) := by decide +kernel
theorem dX9_does_3 : decode cX9_does 3 = .ok (.iload_n 1, 1) := by decide +kernel
theorem dX9_does_4 : decode cX9_does 4 = .ok (.imul, 1) := by decide +kernel
theorem dX9_does_5 : decode cX9_does 5 = .ok (.istore_n 3, 1) := by decide +kernel
theorem dX9_does_6 : decode cX9_does 6 = .ok (.iload_n 2, 1) := by decide +kernel
theorem dX9_does_7 : decode cX9_does 7 = .ok (.iconst 0, 1) := by decide +kernel
theorem dX9_does_8 : decode cX9_does 8 = .ok (.bipush 99, 2) := by decide +kernel
theorem dX9_does_10 : decode cX9_does 10 = .ok (.invokestatic 53, 3) := by decide +kernel
theorem dX9_does_13 : decode cX9_does 13 = .ok (.ifCond .ne 6, 3) := by decide +kernel
theorem dX9_does_16 : decode cX9_does 16 = .ok (.bipush (-2), 2) := by decide +kernel
theorem dX9_does_18 : decode cX9_does 18 = .ok (.ireturn, 1) := by decide +kernel
theorem dX9_does_19 : decode cX9_does 19 = .ok (.aload_n 0, 1) := by decide +kernel
theorem dX9_does_20 : decode cX9_does 20 = .ok (.getfield 7, 3) := by decide +kernel
theorem dX9_does_23 : decode cX9_does 23 = .ok (.iload_n 3, 1) := by decide +kernel
theorem dX9_does_24 : decode cX9_does 24 = .ok (.iconst 1, 1) := by decide +kernel
theorem dX9_does_25 : decode cX9_does 25 = .ok (.iadd, 1) := by decide +kernel
theorem dX9_does_26 : decode cX9_does 26 = .ok (.iaload, 1) := by decide +kernel
theorem dX9_does_27 : decode cX9_does 27 = .ok (.bipush 16, 2) := by decide +kernel
theorem dX9_does_29 : decode cX9_does 29 = .ok (.if_icmp .ne 6, 3) := by decide +kernel
theorem dX9_does_32 : decode cX9_does 32 = .ok (.bipush (-4), 2) := by decide +kernel
theorem dX9_does_34 : decode cX9_does 34 = .ok (.ireturn, 1) := by decide +kernel
theorem dX9_does_35 : decode cX9_does 35 = .ok (.aload_n 0, 1) := by decide +kernel
theorem dX9_does_36 : decode cX9_does 36 = .ok (.getfield 7, 3) := by decide +kernel
theorem dX9_does_39 : decode cX9_does 39 = .ok (.iload_n 3, 1) := by decide +kernel
theorem dX9_does_40 : decode cX9_does 40 = .ok (.iconst 1, 1) := by decide +kernel
theorem dX9_does_41 : decode cX9_does 41 = .ok (.iadd, 1) := by decide +kernel
theorem dX9_does_42 : decode cX9_does 42 = .ok (.iaload, 1) := by decide +kernel
theorem dX9_does_43 : decode cX9_does 43 = .ok (.istore 4, 2) := by decide +kernel
theorem dX9_does_45 : decode cX9_does 45 = .ok (.aload_n 0, 1) := by decide +kernel
theorem dX9_does_46 : decode cX9_does 46 = .ok (.getfield 7, 3) := by decide +kernel
theorem dX9_does_49 : decode cX9_does 49 = .ok (.iload_n 3, 1) := by decide +kernel
theorem dX9_does_50 : decode cX9_does 50 = .ok (.bipush 26, 2) := by decide +kernel
theorem dX9_does_52 : decode cX9_does 52 = .ok (.iadd, 1) := by decide +kernel
theorem dX9_does_53 : decode cX9_does 53 = .ok (.iaload, 1) := by decide +kernel
theorem dX9_does_54 : decode cX9_does 54 = .ok (.istore 5, 2) := by decide +kernel
theorem dX9_does_56 : decode cX9_does 56 = .ok (.iconst 0, 1) := by decide +kernel
theorem dX9_does_57 : decode cX9_does 57 = .ok (.istore 6, 2) := by decide +kernel
theorem dX9_does_59 : decode cX9_does 59 = .ok (.iload 6, 2) := by decide +kernel
theorem dX9_does_61 : decode cX9_does 61 = .ok (.iconst 3, 1) := by decide +kernel
theorem dX9_does_62 : decode cX9_does 62 = .ok (.if_icmp .ge 42, 3) := by decide +kernel
theorem dX9_does_65 : decode cX9_does 65 = .ok (.aload_n 0, 1) := by decide +kernel
theorem dX9_does_66 : decode cX9_does 66 = .ok (.getfield 7, 3) := by decide +kernel
theorem dX9_does_69 : decode cX9_does 69 = .ok (.iload_n 3, 1) := by decide +kernel
theorem dX9_does_70 : decode cX9_does 70 = .ok (.bipush 51, 2) := by decide +kernel
theorem dX9_does_72 : decode cX9_does 72 = .ok (.iadd, 1) := by decide +kernel
theorem dX9_does_73 : decode cX9_does 73 = .ok (.iload 6, 2) := by decide +kernel
theorem dX9_does_75 : decode cX9_does 75 = .ok (.iload 4, 2) := by decide +kernel
theorem dX9_does_77 : decode cX9_does 77 = .ok (.invokestatic 64, 3) := by decide +kernel
theorem dX9_does_80 : decode cX9_does 80 = .ok (.iadd, 1) := by decide +kernel
theorem dX9_does_81 : decode cX9_does 81 = .ok (.iaload, 1) := by decide +kernel
theorem dX9_does_82 : decode cX9_does 82 = .ok (.ifCond .ge 16, 3) := by decide +kernel
theorem dX9_does_85 : decode cX9_does 85 = .ok (.aload_n 0, 1) := by decide +kernel
theorem dX9_does_86 : decode cX9_does 86 = .ok (.iload_n 3, 1) := by decide +kernel
theorem dX9_does_87 : decode cX9_does 87 = .ok (.iload 6, 2) := by decide +kernel
theorem dX9_does_89 : decode cX9_does 89 = .ok (.iload 4, 2) := by decide +kernel
theorem dX9_does_91 : decode cX9_does 91 = .ok (.invokestatic 64, 3) := by decide +kernel
theorem dX9_does_94 : decode cX9_does 94 = .ok (.invokevirtual 77, 3) := by decide +kernel
theorem dX9_does_97 : decode cX9_does 97 = .ok (.pop, 1) := by decide +kernel
theorem dX9_does_98 : decode cX9_does 98 = .ok (.iinc 6 1, 3) := by decide +kernel
theorem dX9_does_101 : decode cX9_does 101 = .ok (.goto (-42), 3) := by decide +kernel
theorem dX9_does_104 : decode cX9_does 104 = .ok (.aload_n 0, 1) := by decide +kernel
theorem dX9_does_105 : decode cX9_does 105 = .ok (.getfield 7, 3) := by decide +kernel
theorem dX9_does_108 : decode cX9_does 108 = .ok (.iload_n 3, 1) := by decide +kernel
theorem dX9_does_109 : decode cX9_does 109 = .ok (.sipush 819, 3) := by decide +kernel
theorem dX9_does_112 : decode cX9_does 112 = .ok (.iadd, 1) := by decide +kernel
theorem dX9_does_113 : decode cX9_does 113 = .ok (.iload 4, 2) := by decide +kernel
theorem dX9_does_115 : decode cX9_does 115 = .ok (.iadd, 1) := by decide +kernel
theorem dX9_does_116 : decode cX9_does 116 = .ok (.iload_n 2, 1) := by decide +kernel
theorem dX9_does_117 : decode cX9_does 117 = .ok (.iastore, 1) := by decide +kernel
theorem dX9_does_118 : decode cX9_does 118 = .ok (.iconst 0, 1) := by decide +kernel
theorem dX9_does_119 : decode cX9_does 119 = .ok (.istore 6, 2) := by decide +kernel
theorem dX9_does_121 : decode cX9_does 121 = .ok (.iload 6, 2) := by decide +kernel
theorem dX9_does_123 : decode cX9_does 123 = .ok (.iconst 3, 1) := by decide +kernel
theorem dX9_does_124 : decode cX9_does 124 = .ok (.if_icmp .ge 40, 3) := by decide +kernel
theorem dX9_does_127 : decode cX9_does 127 = .ok (.iload 6, 2) := by decide +kernel
theorem dX9_does_129 : decode cX9_does 129 = .ok (.iload 4, 2) := by decide +kernel
theorem dX9_does_131 : decode cX9_does 131 = .ok (.invokestatic 64, 3) := by decide +kernel
theorem dX9_does_134 : decode cX9_does 134 = .ok (.istore 7, 2) := by decide +kernel
theorem dX9_does_136 : decode cX9_does 136 = .ok (.aload_n 0, 1) := by decide +kernel
theorem dX9_does_137 : decode cX9_does 137 = .ok (.iload_n 3, 1) := by decide +kernel
theorem dX9_does_138 : decode cX9_does 138 = .ok (.iload 7, 2) := by decide +kernel
theorem dX9_does_140 : decode cX9_does 140 = .ok (.iload_n 2, 1) := by decide +kernel
theorem dX9_does_141 : decode cX9_does 141 = .ok (.aload_n 0, 1) := by decide +kernel
theorem dX9_does_142 : decode cX9_does 142 = .ok (.iload_n 3, 1) := by decide +kernel
theorem dX9_does_143 : decode cX9_does 143 = .ok (.iload 7, 2) := by decide +kernel
theorem dX9_does_145 : decode cX9_does 145 = .ok (.invokevirtual 38, 3) := by decide +kernel
theorem dX9_does_148 : decode cX9_does 148 = .ok (.invokevirtual 80, 3) := by decide +kernel
theorem dX9_does_151 : decode cX9_does 151 = .ok (.aload_n 0, 1) := by decide +kernel
theorem dX9_does_152 : decode cX9_does 152 = .ok (.iload_n 3, 1) := by decide +kernel
theorem dX9_does_153 : decode cX9_does 153 = .ok (.iload 7, 2) := by decide +kernel
theorem dX9_does_155 : decode cX9_does 155 = .ok (.invokevirtual 35, 3) := by decide +kernel
theorem dX9_does_158 : decode cX9_does 158 = .ok (.iinc 6 1, 3) := by decide +kernel
theorem dX9_does_161 : decode cX9_does 161 = .ok (.goto (-40), 3) := by decide +kernel
theorem dX9_does_164 : decode cX9_does 164 = .ok (.aload_n 0, 1) := by decide +kernel
theorem dX9_does_165 : decode cX9_does 165 = .ok (.getfield 7, 3) := by decide +kernel
theorem dX9_does_168 : decode cX9_does 168 = .ok (.iload_n 3, 1) := by decide +kernel
theorem dX9_does_169 : decode cX9_does 169 = .ok (.iconst 1, 1) := by decide +kernel
theorem dX9_does_170 : decode cX9_does 170 = .ok (.iadd, 1) := by decide +kernel
theorem dX9_does_171 : decode cX9_does 171 = .ok (.dup2, 1) := by decide +kernel
theorem dX9_does_172 : decode cX9_does 172 = .ok (.iaload, 1) := by decide +kernel
theorem dX9_does_173 : decode cX9_does 173 = .ok (.iconst 1, 1) := by decide +kernel
theorem dX9_does_174 : decode cX9_does 174 = .ok (.iadd, 1) := by decide +kernel
theorem dX9_does_175 : decode cX9_does 175 = .ok (.iastore, 1) := by decide +kernel
theorem dX9_does_176 : decode cX9_does 176 = .ok (.aload_n 0, 1) := by decide +kernel
theorem dX9_does_177 : decode cX9_does 177 = .ok (.getfield 7, 3) := by decide +kernel
theorem dX9_does_180 : decode cX9_does 180 = .ok (.iload_n 3, 1) := by decide +kernel
theorem dX9_does_181 : decode cX9_does 181 = .ok (.bipush 26, 2) := by decide +kernel
theorem dX9_does_183 : decode cX9_does 183 = .ok (.iadd, 1) := by decide +kernel
theorem dX9_does_184 : decode cX9_does 184 = .ok (.iaload, 1) := by decide +kernel
theorem dX9_does_185 : decode cX9_does 185 = .ok (.iload 5, 2) := by decide +kernel
theorem dX9_does_187 : decode cX9_does 187 = .ok (.isub, 1) := by decide +kernel
theorem dX9_does_188 : decode cX9_does 188 = .ok (.ireturn, 1) := by decide +kernel
theorem dX9_begins_0 : decode cX9_begins 0 = .ok (.sipush 835, 3) := by decide +kernel
theorem dX9_begins_3 : decode cX9_begins 3 = .ok (.iload_n 1, 1) := by decide +kernel
theorem dX9_begins_4 : decode cX9_begins 4 = .ok (.imul, 1) := by decide +kernel
theorem dX9_begins_5 : decode cX9_begins 5 = .ok (.istore_n 2, 1) := by decide +kernel
theorem dX9_begins_6 : decode cX9_begins 6 = .ok (.aload_n 0, 1) := by decide +kernel
theorem dX9_begins_7 : decode cX9_begins 7 = .ok (.getfield 7, 3) := by decide +kernel
theorem dX9_begins_10 : decode cX9_begins 10 = .ok (.iload_n 2, 1) := by decide +kernel
theorem dX9_begins_11 : decode cX9_begins 11 = .ok (.iconst 1, 1) := by decide +kernel
theorem dX9_begins_12 : decode cX9_begins 12 = .ok (.iadd, 1) := by decide +kernel
theorem dX9_begins_13 : decode cX9_begins 13 = .ok (.iaload, 1) := by decide +kernel
theorem dX9_begins_14 : decode cX9_begins 14 = .ok (.bipush 16, 2) := by decide +kernel
theorem dX9_begins_16 : decode cX9_begins 16 = .ok (.if_icmp .ge 6, 3) := by decide +kernel
theorem dX9_begins_19 : decode cX9_begins 19 = .ok (.bipush (-4), 2) := by decide +kernel
theorem dX9_begins_21 : decode cX9_begins 21 = .ok (.ireturn, 1) := by decide +kernel
theorem dX9_begins_22 : decode cX9_begins 22 = .ok (.aload_n 0, 1) := by decide +kernel
theorem dX9_begins_23 : decode cX9_begins 23 = .ok (.getfield 7, 3) := by decide +kernel
theorem dX9_begins_26 : decode cX9_begins 26 = .ok (.iload_n 2, 1) := by decide +kernel
theorem dX9_begins_27 : decode cX9_begins 27 = .ok (.iaload, 1) := by decide +kernel
theorem dX9_begins_28 : decode cX9_begins 28 = .ok (.sipush 999, 3) := by decide +kernel
theorem dX9_begins_31 : decode cX9_begins 31 = .ok (.if_icmp .ne 6, 3) := by decide +kernel
theorem dX9_begins_34 : decode cX9_begins 34 = .ok (.bipush (-3), 2) := by decide +kernel
theorem dX9_begins_36 : decode cX9_begins 36 = .ok (.ireturn, 1) := by decide +kernel
theorem dX9_begins_37 : decode cX9_begins 37 = .ok (.aload_n 0, 1) := by decide +kernel
theorem dX9_begins_38 : decode cX9_begins 38 = .ok (.iload_n 1, 1) := by decide +kernel
theorem dX9_begins_39 : decode cX9_begins 39 = .ok (.invokevirtual 24, 3) := by decide +kernel
theorem dX9_begins_42 : decode cX9_begins 42 = .ok (.aload_n 0, 1) := by decide +kernel
theorem dX9_begins_43 : decode cX9_begins 43 = .ok (.getfield 7, 3) := by decide +kernel
theorem dX9_begins_46 : decode cX9_begins 46 = .ok (.iload_n 2, 1) := by decide +kernel
theorem dX9_begins_47 : decode cX9_begins 47 = .ok (.dup2, 1) := by decide +kernel
theorem dX9_begins_48 : decode cX9_begins 48 = .ok (.iaload, 1) := by decide +kernel
theorem dX9_begins_49 : decode cX9_begins 49 = .ok (.iconst 1, 1) := by decide +kernel
theorem dX9_begins_50 : decode cX9_begins 50 = .ok (.iadd, 1) := by decide +kernel
theorem dX9_begins_51 : decode cX9_begins 51 = .ok (.iastore, 1) := by decide +kernel
theorem dX9_begins_52 : decode cX9_begins 52 = .ok (.aload_n 0, 1) := by decide +kernel
theorem dX9_begins_53 : decode cX9_begins 53 = .ok (.getfield 7, 3) := by decide +kernel
theorem dX9_begins_56 : decode cX9_begins 56 = .ok (.iload_n 2, 1) := by decide +kernel
theorem dX9_begins_57 : decode cX9_begins 57 = .ok (.iaload, 1) := by decide +kernel
theorem dX9_begins_58 : decode cX9_begins 58 = .ok (.ireturn, 1) := by decide +kernel
theorem dX9_settles_0 : decode cX9_settles 0 = .ok (.iload_n 1, 1) := by decide +kernel
theorem dX9_settles_1 : decode cX9_settles 1 = .ok (.ifCond .lt 14, 3) := by decide +kernel
theorem dX9_settles_4 : decode cX9_settles 4 = .ok (.aload_n 0, 1) := by decide +kernel
theorem dX9_settles_5 : decode cX9_settles 5 = .ok (.invokevirtual 84, 3) := by decide +kernel
theorem dX9_settles_8 : decode cX9_settles 8 = .ok (.aload_n 0, 1) := by decide +kernel
theorem dX9_settles_9 : decode cX9_settles 9 = .ok (.bipush 6, 2) := by decide +kernel
theorem dX9_settles_11 : decode cX9_settles 11 = .ok (.iconst 0, 1) := by decide +kernel
theorem dX9_settles_12 : decode cX9_settles 12 = .ok (.invokevirtual 31, 3) := by decide +kernel
theorem dX9_settles_15 : decode cX9_settles 15 = .ok (.iload_n 1, 1) := by decide +kernel
theorem dX9_settles_16 : decode cX9_settles 16 = .ok (.ireturn, 1) := by decide +kernel
theorem dX9_expect_0 : decode cX9_expect 0 = .ok (.aload_n 0, 1) := by decide +kernel
theorem dX9_expect_1 : decode cX9_expect 1 = .ok (.iconst 0, 1) := by decide +kernel
theorem dX9_expect_2 : decode cX9_expect 2 = .ok (.bipush 6, 2) := by decide +kernel
theorem dX9_expect_4 : decode cX9_expect 4 = .ok (.invokevirtual 31, 3) := by decide +kernel
theorem dX9_expect_7 : decode cX9_expect 7 = .ok (.aload_n 0, 1) := by decide +kernel
theorem dX9_expect_8 : decode cX9_expect 8 = .ok (.aload_n 0, 1) := by decide +kernel
theorem dX9_expect_9 : decode cX9_expect 9 = .ok (.bipush 6, 2) := by decide +kernel
theorem dX9_expect_11 : decode cX9_expect 11 = .ok (.iload_n 1, 1) := by decide +kernel
theorem dX9_expect_12 : decode cX9_expect 12 = .ok (.iload_n 2, 1) := by decide +kernel
theorem dX9_expect_13 : decode cX9_expect 13 = .ok (.invokevirtual 87, 3) := by decide +kernel
theorem dX9_expect_16 : decode cX9_expect 16 = .ok (.invokevirtual 90, 3) := by decide +kernel
theorem dX9_expect_19 : decode cX9_expect 19 = .ok (.ireturn, 1) := by decide +kernel
theorem dX9_fund_0 : decode cX9_fund 0 = .ok (.iload_n 1, 1) := by decide +kernel
theorem dX9_fund_1 : decode cX9_fund 1 = .ok (.iconst 0, 1) := by decide +kernel
theorem dX9_fund_2 : decode cX9_fund 2 = .ok (.iconst 5, 1) := by decide +kernel
theorem dX9_fund_3 : decode cX9_fund 3 = .ok (.invokestatic 53, 3) := by decide +kernel
theorem dX9_fund_6 : decode cX9_fund 6 = .ok (.ifCond .ne 5, 3) := by decide +kernel
theorem dX9_fund_9 : decode cX9_fund 9 = .ok (.iconst (-1), 1) := by decide +kernel
theorem dX9_fund_10 : decode cX9_fund 10 = .ok (.ireturn, 1) := by decide +kernel
theorem dX9_fund_11 : decode cX9_fund 11 = .ok (.iload_n 2, 1) := by decide +kernel
theorem dX9_fund_12 : decode cX9_fund 12 = .ok (.iconst 1, 1) := by decide +kernel
theorem dX9_fund_13 : decode cX9_fund 13 = .ok (.sipush 999, 3) := by decide +kernel
theorem dX9_fund_16 : decode cX9_fund 16 = .ok (.invokestatic 53, 3) := by decide +kernel
theorem dX9_fund_19 : decode cX9_fund 19 = .ok (.ifCond .ne 6, 3) := by decide +kernel
theorem dX9_fund_22 : decode cX9_fund 22 = .ok (.bipush (-2), 2) := by decide +kernel
theorem dX9_fund_24 : decode cX9_fund 24 = .ok (.ireturn, 1) := by decide +kernel
theorem dX9_fund_25 : decode cX9_fund 25 = .ok (.aload_n 0, 1) := by decide +kernel
theorem dX9_fund_26 : decode cX9_fund 26 = .ok (.getfield 7, 3) := by decide +kernel
theorem dX9_fund_29 : decode cX9_fund 29 = .ok (.iconst 2, 1) := by decide +kernel
theorem dX9_fund_30 : decode cX9_fund 30 = .ok (.iload_n 1, 1) := by decide +kernel
theorem dX9_fund_31 : decode cX9_fund 31 = .ok (.iadd, 1) := by decide +kernel
theorem dX9_fund_32 : decode cX9_fund 32 = .ok (.iaload, 1) := by decide +kernel
theorem dX9_fund_33 : decode cX9_fund 33 = .ok (.sipush 9999, 3) := by decide +kernel
theorem dX9_fund_36 : decode cX9_fund 36 = .ok (.iload_n 2, 1) := by decide +kernel
theorem dX9_fund_37 : decode cX9_fund 37 = .ok (.isub, 1) := by decide +kernel
theorem dX9_fund_38 : decode cX9_fund 38 = .ok (.if_icmp .le 6, 3) := by decide +kernel
theorem dX9_fund_41 : decode cX9_fund 41 = .ok (.bipush (-3), 2) := by decide +kernel
theorem dX9_fund_43 : decode cX9_fund 43 = .ok (.ireturn, 1) := by decide +kernel
theorem dX9_fund_44 : decode cX9_fund 44 = .ok (.aload_n 0, 1) := by decide +kernel
theorem dX9_fund_45 : decode cX9_fund 45 = .ok (.invokevirtual 84, 3) := by decide +kernel
theorem dX9_fund_48 : decode cX9_fund 48 = .ok (.aload_n 0, 1) := by decide +kernel
theorem dX9_fund_49 : decode cX9_fund 49 = .ok (.getfield 7, 3) := by decide +kernel
theorem dX9_fund_52 : decode cX9_fund 52 = .ok (.iconst 2, 1) := by decide +kernel
theorem dX9_fund_53 : decode cX9_fund 53 = .ok (.iload_n 1, 1) := by decide +kernel
theorem dX9_fund_54 : decode cX9_fund 54 = .ok (.iadd, 1) := by decide +kernel
theorem dX9_fund_55 : decode cX9_fund 55 = .ok (.dup2, 1) := by decide +kernel
theorem dX9_fund_56 : decode cX9_fund 56 = .ok (.iaload, 1) := by decide +kernel
theorem dX9_fund_57 : decode cX9_fund 57 = .ok (.iload_n 2, 1) := by decide +kernel
theorem dX9_fund_58 : decode cX9_fund 58 = .ok (.iadd, 1) := by decide +kernel
theorem dX9_fund_59 : decode cX9_fund 59 = .ok (.iastore, 1) := by decide +kernel
theorem dX9_fund_60 : decode cX9_fund 60 = .ok (.aload_n 0, 1) := by decide +kernel
theorem dX9_fund_61 : decode cX9_fund 61 = .ok (.getfield 7, 3) := by decide +kernel
theorem dX9_fund_64 : decode cX9_fund 64 = .ok (.bipush 32, 2) := by decide +kernel
theorem dX9_fund_66 : decode cX9_fund 66 = .ok (.dup2, 1) := by decide +kernel
theorem dX9_fund_67 : decode cX9_fund 67 = .ok (.iaload, 1) := by decide +kernel
theorem dX9_fund_68 : decode cX9_fund 68 = .ok (.iload_n 2, 1) := by decide +kernel
theorem dX9_fund_69 : decode cX9_fund 69 = .ok (.iadd, 1) := by decide +kernel
theorem dX9_fund_70 : decode cX9_fund 70 = .ok (.iastore, 1) := by decide +kernel
theorem dX9_fund_71 : decode cX9_fund 71 = .ok (.aload_n 0, 1) := by decide +kernel
theorem dX9_fund_72 : decode cX9_fund 72 = .ok (.getfield 7, 3) := by decide +kernel
theorem dX9_fund_75 : decode cX9_fund 75 = .ok (.iconst 2, 1) := by decide +kernel
theorem dX9_fund_76 : decode cX9_fund 76 = .ok (.iload_n 1, 1) := by decide +kernel
theorem dX9_fund_77 : decode cX9_fund 77 = .ok (.iadd, 1) := by decide +kernel
theorem dX9_fund_78 : decode cX9_fund 78 = .ok (.iaload, 1) := by decide +kernel
theorem dX9_fund_79 : decode cX9_fund 79 = .ok (.ireturn, 1) := by decide +kernel
theorem dX9_bid_0 : decode cX9_bid 0 = .ok (.aload_n 0, 1) := by decide +kernel
theorem dX9_bid_1 : decode cX9_bid 1 = .ok (.iconst 0, 1) := by decide +kernel
theorem dX9_bid_2 : decode cX9_bid 2 = .ok (.bipush 6, 2) := by decide +kernel
theorem dX9_bid_4 : decode cX9_bid 4 = .ok (.invokevirtual 31, 3) := by decide +kernel
theorem dX9_bid_7 : decode cX9_bid 7 = .ok (.aload_n 0, 1) := by decide +kernel
theorem dX9_bid_8 : decode cX9_bid 8 = .ok (.aload_n 0, 1) := by decide +kernel
theorem dX9_bid_9 : decode cX9_bid 9 = .ok (.bipush 6, 2) := by decide +kernel
theorem dX9_bid_11 : decode cX9_bid 11 = .ok (.iload_n 1, 1) := by decide +kernel
theorem dX9_bid_12 : decode cX9_bid 12 = .ok (.iload_n 2, 1) := by decide +kernel
theorem dX9_bid_13 : decode cX9_bid 13 = .ok (.iload_n 3, 1) := by decide +kernel
theorem dX9_bid_14 : decode cX9_bid 14 = .ok (.iload 4, 2) := by decide +kernel
theorem dX9_bid_16 : decode cX9_bid 16 = .ok (.iload 5, 2) := by decide +kernel
theorem dX9_bid_18 : decode cX9_bid 18 = .ok (.invokevirtual 93, 3) := by decide +kernel
theorem dX9_bid_21 : decode cX9_bid 21 = .ok (.invokevirtual 90, 3) := by decide +kernel
theorem dX9_bid_24 : decode cX9_bid 24 = .ok (.ireturn, 1) := by decide +kernel
theorem dX9_isSlot_0 : decode cX9_isSlot 0 = .ok (.iload_n 0, 1) := by decide +kernel
theorem dX9_isSlot_1 : decode cX9_isSlot 1 = .ok (.iconst 0, 1) := by decide +kernel
theorem dX9_isSlot_2 : decode cX9_isSlot 2 = .ok (.iconst 2, 1) := by decide +kernel
theorem dX9_isSlot_3 : decode cX9_isSlot 3 = .ok (.invokestatic 53, 3) := by decide +kernel
theorem dX9_isSlot_6 : decode cX9_isSlot 6 = .ok (.ifCond .eq 17, 3) := by decide +kernel
theorem dX9_isSlot_9 : decode cX9_isSlot 9 = .ok (.iload_n 1, 1) := by decide +kernel
theorem dX9_isSlot_10 : decode cX9_isSlot 10 = .ok (.iconst 0, 1) := by decide +kernel
theorem dX9_isSlot_11 : decode cX9_isSlot 11 = .ok (.bipush 15, 2) := by decide +kernel
theorem dX9_isSlot_13 : decode cX9_isSlot 13 = .ok (.invokestatic 53, 3) := by decide +kernel
theorem dX9_isSlot_16 : decode cX9_isSlot 16 = .ok (.ifCond .eq 7, 3) := by decide +kernel
theorem dX9_isSlot_19 : decode cX9_isSlot 19 = .ok (.iconst 1, 1) := by decide +kernel
theorem dX9_isSlot_20 : decode cX9_isSlot 20 = .ok (.goto 4, 3) := by decide +kernel
theorem dX9_isSlot_23 : decode cX9_isSlot 23 = .ok (.iconst 0, 1) := by decide +kernel
theorem dX9_isSlot_24 : decode cX9_isSlot 24 = .ok (.ireturn, 1) := by decide +kernel
theorem dX9_withdraw_0 : decode cX9_withdraw 0 = .ok (.iload_n 1, 1) := by decide +kernel
theorem dX9_withdraw_1 : decode cX9_withdraw 1 = .ok (.iconst 0, 1) := by decide +kernel
theorem dX9_withdraw_2 : decode cX9_withdraw 2 = .ok (.iconst 5, 1) := by decide +kernel
theorem dX9_withdraw_3 : decode cX9_withdraw 3 = .ok (.invokestatic 53, 3) := by decide +kernel
theorem dX9_withdraw_6 : decode cX9_withdraw 6 = .ok (.ifCond .eq 11, 3) := by decide +kernel
theorem dX9_withdraw_9 : decode cX9_withdraw 9 = .ok (.iload_n 2, 1) := by decide +kernel
theorem dX9_withdraw_10 : decode cX9_withdraw 10 = .ok (.iload_n 3, 1) := by decide +kernel
theorem dX9_withdraw_11 : decode cX9_withdraw 11 = .ok (.invokestatic 96, 3) := by decide +kernel
theorem dX9_withdraw_14 : decode cX9_withdraw 14 = .ok (.ifCond .ne 5, 3) := by decide +kernel
theorem dX9_withdraw_17 : decode cX9_withdraw 17 = .ok (.iconst (-1), 1) := by decide +kernel
theorem dX9_withdraw_18 : decode cX9_withdraw 18 = .ok (.ireturn, 1) := by decide +kernel
theorem dX9_withdraw_19 : decode cX9_withdraw 19 = .ok (.bipush 6, 2) := by decide +kernel
theorem dX9_withdraw_21 : decode cX9_withdraw 21 = .ok (.iload_n 2, 1) := by decide +kernel
theorem dX9_withdraw_22 : decode cX9_withdraw 22 = .ok (.iload_n 3, 1) := by decide +kernel
theorem dX9_withdraw_23 : decode cX9_withdraw 23 = .ok (.invokestatic 64, 3) := by decide +kernel
theorem dX9_withdraw_26 : decode cX9_withdraw 26 = .ok (.imul, 1) := by decide +kernel
theorem dX9_withdraw_27 : decode cX9_withdraw 27 = .ok (.iload_n 1, 1) := by decide +kernel
theorem dX9_withdraw_28 : decode cX9_withdraw 28 = .ok (.iadd, 1) := by decide +kernel
theorem dX9_withdraw_29 : decode cX9_withdraw 29 = .ok (.istore 4, 2) := by decide +kernel
theorem dX9_withdraw_31 : decode cX9_withdraw 31 = .ok (.aload_n 0, 1) := by decide +kernel
theorem dX9_withdraw_32 : decode cX9_withdraw 32 = .ok (.getfield 7, 3) := by decide +kernel
theorem dX9_withdraw_35 : decode cX9_withdraw 35 = .ok (.sipush 531, 3) := by decide +kernel
theorem dX9_withdraw_38 : decode cX9_withdraw 38 = .ok (.iload 4, 2) := by decide +kernel
theorem dX9_withdraw_40 : decode cX9_withdraw 40 = .ok (.iadd, 1) := by decide +kernel
theorem dX9_withdraw_41 : decode cX9_withdraw 41 = .ok (.iaload, 1) := by decide +kernel
theorem dX9_withdraw_42 : decode cX9_withdraw 42 = .ok (.istore 5, 2) := by decide +kernel
theorem dX9_withdraw_44 : decode cX9_withdraw 44 = .ok (.iload 5, 2) := by decide +kernel
theorem dX9_withdraw_46 : decode cX9_withdraw 46 = .ok (.ifCond .ne 5, 3) := by decide +kernel
theorem dX9_withdraw_49 : decode cX9_withdraw 49 = .ok (.iconst (-1), 1) := by decide +kernel
theorem dX9_withdraw_50 : decode cX9_withdraw 50 = .ok (.ireturn, 1) := by decide +kernel
theorem dX9_withdraw_51 : decode cX9_withdraw 51 = .ok (.aload_n 0, 1) := by decide +kernel
theorem dX9_withdraw_52 : decode cX9_withdraw 52 = .ok (.invokevirtual 84, 3) := by decide +kernel
theorem dX9_withdraw_55 : decode cX9_withdraw 55 = .ok (.aload_n 0, 1) := by decide +kernel
theorem dX9_withdraw_56 : decode cX9_withdraw 56 = .ok (.getfield 7, 3) := by decide +kernel
theorem dX9_withdraw_59 : decode cX9_withdraw 59 = .ok (.sipush 243, 3) := by decide +kernel
theorem dX9_withdraw_62 : decode cX9_withdraw 62 = .ok (.iload 4, 2) := by decide +kernel
theorem dX9_withdraw_64 : decode cX9_withdraw 64 = .ok (.iadd, 1) := by decide +kernel
theorem dX9_withdraw_65 : decode cX9_withdraw 65 = .ok (.iconst 0, 1) := by decide +kernel
theorem dX9_withdraw_66 : decode cX9_withdraw 66 = .ok (.iastore, 1) := by decide +kernel
theorem dX9_withdraw_67 : decode cX9_withdraw 67 = .ok (.aload_n 0, 1) := by decide +kernel
theorem dX9_withdraw_68 : decode cX9_withdraw 68 = .ok (.getfield 7, 3) := by decide +kernel
theorem dX9_withdraw_71 : decode cX9_withdraw 71 = .ok (.sipush 531, 3) := by decide +kernel
theorem dX9_withdraw_74 : decode cX9_withdraw 74 = .ok (.iload 4, 2) := by decide +kernel
theorem dX9_withdraw_76 : decode cX9_withdraw 76 = .ok (.iadd, 1) := by decide +kernel
theorem dX9_withdraw_77 : decode cX9_withdraw 77 = .ok (.iconst 0, 1) := by decide +kernel
theorem dX9_withdraw_78 : decode cX9_withdraw 78 = .ok (.iastore, 1) := by decide +kernel
theorem dX9_withdraw_79 : decode cX9_withdraw 79 = .ok (.iload 5, 2) := by decide +kernel
theorem dX9_withdraw_81 : decode cX9_withdraw 81 = .ok (.ireturn, 1) := by decide +kernel
theorem dX9_award_0 : decode cX9_award 0 = .ok (.iload_n 1, 1) := by decide +kernel
theorem dX9_award_1 : decode cX9_award 1 = .ok (.iload_n 2, 1) := by decide +kernel
theorem dX9_award_2 : decode cX9_award 2 = .ok (.invokestatic 96, 3) := by decide +kernel
theorem dX9_award_5 : decode cX9_award 5 = .ok (.ifCond .ne 5, 3) := by decide +kernel
theorem dX9_award_8 : decode cX9_award 8 = .ok (.iconst (-1), 1) := by decide +kernel
theorem dX9_award_9 : decode cX9_award 9 = .ok (.ireturn, 1) := by decide +kernel
theorem dX9_award_10 : decode cX9_award 10 = .ok (.iload_n 1, 1) := by decide +kernel
theorem dX9_award_11 : decode cX9_award 11 = .ok (.iload_n 2, 1) := by decide +kernel
theorem dX9_award_12 : decode cX9_award 12 = .ok (.invokestatic 64, 3) := by decide +kernel
theorem dX9_award_15 : decode cX9_award 15 = .ok (.istore_n 3, 1) := by decide +kernel
theorem dX9_award_16 : decode cX9_award 16 = .ok (.aload_n 0, 1) := by decide +kernel
theorem dX9_award_17 : decode cX9_award 17 = .ok (.iconst 0, 1) := by decide +kernel
theorem dX9_award_18 : decode cX9_award 18 = .ok (.iload_n 2, 1) := by decide +kernel
theorem dX9_award_19 : decode cX9_award 19 = .ok (.invokevirtual 57, 3) := by decide +kernel
theorem dX9_award_22 : decode cX9_award 22 = .ok (.ifCond .ne 15, 3) := by decide +kernel
theorem dX9_award_25 : decode cX9_award 25 = .ok (.aload_n 0, 1) := by decide +kernel
theorem dX9_award_26 : decode cX9_award 26 = .ok (.getfield 7, 3) := by decide +kernel
theorem dX9_award_29 : decode cX9_award 29 = .ok (.bipush 51, 2) := by decide +kernel
theorem dX9_award_31 : decode cX9_award 31 = .ok (.iload_n 3, 1) := by decide +kernel
theorem dX9_award_32 : decode cX9_award 32 = .ok (.iadd, 1) := by decide +kernel
theorem dX9_award_33 : decode cX9_award 33 = .ok (.iaload, 1) := by decide +kernel
theorem dX9_award_34 : decode cX9_award 34 = .ok (.ifCond .lt 6, 3) := by decide +kernel
theorem dX9_award_37 : decode cX9_award 37 = .ok (.bipush (-4), 2) := by decide +kernel
theorem dX9_award_39 : decode cX9_award 39 = .ok (.ireturn, 1) := by decide +kernel
theorem dX9_award_40 : decode cX9_award 40 = .ok (.aload_n 0, 1) := by decide +kernel
theorem dX9_award_41 : decode cX9_award 41 = .ok (.iconst 0, 1) := by decide +kernel
theorem dX9_award_42 : decode cX9_award 42 = .ok (.iload_n 3, 1) := by decide +kernel
theorem dX9_award_43 : decode cX9_award 43 = .ok (.iconst (-1), 1) := by decide +kernel
theorem dX9_award_44 : decode cX9_award 44 = .ok (.invokevirtual 50, 3) := by decide +kernel
theorem dX9_award_47 : decode cX9_award 47 = .ok (.ifCond .ge 6, 3) := by decide +kernel
theorem dX9_award_50 : decode cX9_award 50 = .ok (.bipush (-5), 2) := by decide +kernel
theorem dX9_award_52 : decode cX9_award 52 = .ok (.ireturn, 1) := by decide +kernel
theorem dX9_award_53 : decode cX9_award 53 = .ok (.aload_n 0, 1) := by decide +kernel
theorem dX9_award_54 : decode cX9_award 54 = .ok (.invokevirtual 84, 3) := by decide +kernel
theorem dX9_award_57 : decode cX9_award 57 = .ok (.aload_n 0, 1) := by decide +kernel
theorem dX9_award_58 : decode cX9_award 58 = .ok (.iconst 0, 1) := by decide +kernel
theorem dX9_award_59 : decode cX9_award 59 = .ok (.iload_n 3, 1) := by decide +kernel
theorem dX9_award_60 : decode cX9_award 60 = .ok (.invokevirtual 77, 3) := by decide +kernel
theorem dX9_award_63 : decode cX9_award 63 = .ok (.ireturn, 1) := by decide +kernel
theorem dX9_trade_0 : decode cX9_trade 0 = .ok (.iload_n 1, 1) := by decide +kernel
theorem dX9_trade_1 : decode cX9_trade 1 = .ok (.iload_n 2, 1) := by decide +kernel
theorem dX9_trade_2 : decode cX9_trade 2 = .ok (.invokestatic 96, 3) := by decide +kernel
theorem dX9_trade_5 : decode cX9_trade 5 = .ok (.ifCond .eq 28, 3) := by decide +kernel
theorem dX9_trade_8 : decode cX9_trade 8 = .ok (.iload_n 3, 1) := by decide +kernel
theorem dX9_trade_9 : decode cX9_trade 9 = .ok (.iconst 0, 1) := by decide +kernel
theorem dX9_trade_10 : decode cX9_trade 10 = .ok (.iconst 5, 1) := by decide +kernel
theorem dX9_trade_11 : decode cX9_trade 11 = .ok (.invokestatic 53, 3) := by decide +kernel
theorem dX9_trade_14 : decode cX9_trade 14 = .ok (.ifCond .eq 19, 3) := by decide +kernel
theorem dX9_trade_17 : decode cX9_trade 17 = .ok (.aload_n 0, 1) := by decide +kernel
theorem dX9_trade_18 : decode cX9_trade 18 = .ok (.getfield 7, 3) := by decide +kernel
theorem dX9_trade_21 : decode cX9_trade 21 = .ok (.bipush 51, 2) := by decide +kernel
theorem dX9_trade_23 : decode cX9_trade 23 = .ok (.iload_n 1, 1) := by decide +kernel
theorem dX9_trade_24 : decode cX9_trade 24 = .ok (.iload_n 2, 1) := by decide +kernel
theorem dX9_trade_25 : decode cX9_trade 25 = .ok (.invokestatic 64, 3) := by decide +kernel
theorem dX9_trade_28 : decode cX9_trade 28 = .ok (.iadd, 1) := by decide +kernel
theorem dX9_trade_29 : decode cX9_trade 29 = .ok (.iaload, 1) := by decide +kernel
theorem dX9_trade_30 : decode cX9_trade 30 = .ok (.ifCond .ge 5, 3) := by decide +kernel
theorem dX9_trade_33 : decode cX9_trade 33 = .ok (.iconst (-1), 1) := by decide +kernel
theorem dX9_trade_34 : decode cX9_trade 34 = .ok (.ireturn, 1) := by decide +kernel
theorem dX9_trade_35 : decode cX9_trade 35 = .ok (.iload 4, 2) := by decide +kernel
theorem dX9_trade_37 : decode cX9_trade 37 = .ok (.iconst 1, 1) := by decide +kernel
theorem dX9_trade_38 : decode cX9_trade 38 = .ok (.iload_n 1, 1) := by decide +kernel
theorem dX9_trade_39 : decode cX9_trade 39 = .ok (.invokestatic 60, 3) := by decide +kernel
theorem dX9_trade_42 : decode cX9_trade 42 = .ok (.invokestatic 53, 3) := by decide +kernel
theorem dX9_trade_45 : decode cX9_trade 45 = .ok (.ifCond .eq 15, 3) := by decide +kernel
theorem dX9_trade_48 : decode cX9_trade 48 = .ok (.iload 5, 2) := by decide +kernel
theorem dX9_trade_50 : decode cX9_trade 50 = .ok (.iconst 0, 1) := by decide +kernel
theorem dX9_trade_51 : decode cX9_trade 51 = .ok (.sipush 999, 3) := by decide +kernel
theorem dX9_trade_54 : decode cX9_trade 54 = .ok (.invokestatic 53, 3) := by decide +kernel
theorem dX9_trade_57 : decode cX9_trade 57 = .ok (.ifCond .ne 6, 3) := by decide +kernel
theorem dX9_trade_60 : decode cX9_trade 60 = .ok (.bipush (-2), 2) := by decide +kernel
theorem dX9_trade_62 : decode cX9_trade 62 = .ok (.ireturn, 1) := by decide +kernel
theorem dX9_trade_63 : decode cX9_trade 63 = .ok (.iload_n 1, 1) := by decide +kernel
theorem dX9_trade_64 : decode cX9_trade 64 = .ok (.iload_n 2, 1) := by decide +kernel
theorem dX9_trade_65 : decode cX9_trade 65 = .ok (.invokestatic 64, 3) := by decide +kernel
theorem dX9_trade_68 : decode cX9_trade 68 = .ok (.istore 6, 2) := by decide +kernel
theorem dX9_trade_70 : decode cX9_trade 70 = .ok (.aload_n 0, 1) := by decide +kernel
theorem dX9_trade_71 : decode cX9_trade 71 = .ok (.getfield 7, 3) := by decide +kernel
theorem dX9_trade_74 : decode cX9_trade 74 = .ok (.bipush 51, 2) := by decide +kernel
theorem dX9_trade_76 : decode cX9_trade 76 = .ok (.iload 6, 2) := by decide +kernel
theorem dX9_trade_78 : decode cX9_trade 78 = .ok (.iadd, 1) := by decide +kernel
theorem dX9_trade_79 : decode cX9_trade 79 = .ok (.iaload, 1) := by decide +kernel
theorem dX9_trade_80 : decode cX9_trade 80 = .ok (.istore 7, 2) := by decide +kernel
theorem dX9_trade_82 : decode cX9_trade 82 = .ok (.aload_n 0, 1) := by decide +kernel
theorem dX9_trade_83 : decode cX9_trade 83 = .ok (.iconst 0, 1) := by decide +kernel
theorem dX9_trade_84 : decode cX9_trade 84 = .ok (.iload_n 2, 1) := by decide +kernel
theorem dX9_trade_85 : decode cX9_trade 85 = .ok (.invokevirtual 57, 3) := by decide +kernel
theorem dX9_trade_88 : decode cX9_trade 88 = .ok (.ifCond .ne 9, 3) := by decide +kernel
theorem dX9_trade_91 : decode cX9_trade 91 = .ok (.iload 7, 2) := by decide +kernel
theorem dX9_trade_93 : decode cX9_trade 93 = .ok (.iload_n 3, 1) := by decide +kernel
theorem dX9_trade_94 : decode cX9_trade 94 = .ok (.if_icmp .ne 6, 3) := by decide +kernel
theorem dX9_trade_97 : decode cX9_trade 97 = .ok (.bipush (-4), 2) := by decide +kernel
theorem dX9_trade_99 : decode cX9_trade 99 = .ok (.ireturn, 1) := by decide +kernel
theorem dX9_trade_100 : decode cX9_trade 100 = .ok (.aload_n 0, 1) := by decide +kernel
theorem dX9_trade_101 : decode cX9_trade 101 = .ok (.getfield 7, 3) := by decide +kernel
theorem dX9_trade_104 : decode cX9_trade 104 = .ok (.iconst 2, 1) := by decide +kernel
theorem dX9_trade_105 : decode cX9_trade 105 = .ok (.iload_n 3, 1) := by decide +kernel
theorem dX9_trade_106 : decode cX9_trade 106 = .ok (.iadd, 1) := by decide +kernel
theorem dX9_trade_107 : decode cX9_trade 107 = .ok (.iaload, 1) := by decide +kernel
theorem dX9_trade_108 : decode cX9_trade 108 = .ok (.aload_n 0, 1) := by decide +kernel
theorem dX9_trade_109 : decode cX9_trade 109 = .ok (.iconst 0, 1) := by decide +kernel
theorem dX9_trade_110 : decode cX9_trade 110 = .ok (.iload_n 3, 1) := by decide +kernel
theorem dX9_trade_111 : decode cX9_trade 111 = .ok (.invokevirtual 67, 3) := by decide +kernel
theorem dX9_trade_114 : decode cX9_trade 114 = .ok (.isub, 1) := by decide +kernel
theorem dX9_trade_115 : decode cX9_trade 115 = .ok (.iload 5, 2) := by decide +kernel
theorem dX9_trade_117 : decode cX9_trade 117 = .ok (.if_icmp .ge 6, 3) := by decide +kernel
theorem dX9_trade_120 : decode cX9_trade 120 = .ok (.bipush (-6), 2) := by decide +kernel
theorem dX9_trade_122 : decode cX9_trade 122 = .ok (.ireturn, 1) := by decide +kernel
theorem dX9_trade_123 : decode cX9_trade 123 = .ok (.aload_n 0, 1) := by decide +kernel
theorem dX9_trade_124 : decode cX9_trade 124 = .ok (.invokevirtual 84, 3) := by decide +kernel
theorem dX9_trade_127 : decode cX9_trade 127 = .ok (.aload_n 0, 1) := by decide +kernel
theorem dX9_trade_128 : decode cX9_trade 128 = .ok (.getfield 7, 3) := by decide +kernel
theorem dX9_trade_131 : decode cX9_trade 131 = .ok (.iconst 2, 1) := by decide +kernel
theorem dX9_trade_132 : decode cX9_trade 132 = .ok (.iload_n 3, 1) := by decide +kernel
theorem dX9_trade_133 : decode cX9_trade 133 = .ok (.iadd, 1) := by decide +kernel
theorem dX9_trade_134 : decode cX9_trade 134 = .ok (.dup2, 1) := by decide +kernel
theorem dX9_trade_135 : decode cX9_trade 135 = .ok (.iaload, 1) := by decide +kernel
theorem dX9_trade_136 : decode cX9_trade 136 = .ok (.iload 5, 2) := by decide +kernel
theorem dX9_trade_138 : decode cX9_trade 138 = .ok (.isub, 1) := by decide +kernel
theorem dX9_trade_139 : decode cX9_trade 139 = .ok (.iastore, 1) := by decide +kernel
theorem dX9_trade_140 : decode cX9_trade 140 = .ok (.aload_n 0, 1) := by decide +kernel
theorem dX9_trade_141 : decode cX9_trade 141 = .ok (.getfield 7, 3) := by decide +kernel
theorem dX9_trade_144 : decode cX9_trade 144 = .ok (.bipush 20, 2) := by decide +kernel
theorem dX9_trade_146 : decode cX9_trade 146 = .ok (.iload_n 3, 1) := by decide +kernel
theorem dX9_trade_147 : decode cX9_trade 147 = .ok (.iadd, 1) := by decide +kernel
theorem dX9_trade_148 : decode cX9_trade 148 = .ok (.dup2, 1) := by decide +kernel
theorem dX9_trade_149 : decode cX9_trade 149 = .ok (.iaload, 1) := by decide +kernel
theorem dX9_trade_150 : decode cX9_trade 150 = .ok (.iload 5, 2) := by decide +kernel
theorem dX9_trade_152 : decode cX9_trade 152 = .ok (.isub, 1) := by decide +kernel
theorem dX9_trade_153 : decode cX9_trade 153 = .ok (.iastore, 1) := by decide +kernel
theorem dX9_trade_154 : decode cX9_trade 154 = .ok (.aload_n 0, 1) := by decide +kernel
theorem dX9_trade_155 : decode cX9_trade 155 = .ok (.getfield 7, 3) := by decide +kernel
theorem dX9_trade_158 : decode cX9_trade 158 = .ok (.iconst 2, 1) := by decide +kernel
theorem dX9_trade_159 : decode cX9_trade 159 = .ok (.iload 7, 2) := by decide +kernel
theorem dX9_trade_161 : decode cX9_trade 161 = .ok (.iadd, 1) := by decide +kernel
theorem dX9_trade_162 : decode cX9_trade 162 = .ok (.dup2, 1) := by decide +kernel
theorem dX9_trade_163 : decode cX9_trade 163 = .ok (.iaload, 1) := by decide +kernel
theorem dX9_trade_164 : decode cX9_trade 164 = .ok (.iload 5, 2) := by decide +kernel
theorem dX9_trade_166 : decode cX9_trade 166 = .ok (.iadd, 1) := by decide +kernel
theorem dX9_trade_167 : decode cX9_trade 167 = .ok (.iastore, 1) := by decide +kernel
theorem dX9_trade_168 : decode cX9_trade 168 = .ok (.aload_n 0, 1) := by decide +kernel
theorem dX9_trade_169 : decode cX9_trade 169 = .ok (.getfield 7, 3) := by decide +kernel
theorem dX9_trade_172 : decode cX9_trade 172 = .ok (.bipush 20, 2) := by decide +kernel
theorem dX9_trade_174 : decode cX9_trade 174 = .ok (.iload 7, 2) := by decide +kernel
theorem dX9_trade_176 : decode cX9_trade 176 = .ok (.iadd, 1) := by decide +kernel
theorem dX9_trade_177 : decode cX9_trade 177 = .ok (.dup2, 1) := by decide +kernel
theorem dX9_trade_178 : decode cX9_trade 178 = .ok (.iaload, 1) := by decide +kernel
theorem dX9_trade_179 : decode cX9_trade 179 = .ok (.iload 5, 2) := by decide +kernel
theorem dX9_trade_181 : decode cX9_trade 181 = .ok (.iadd, 1) := by decide +kernel
theorem dX9_trade_182 : decode cX9_trade 182 = .ok (.iastore, 1) := by decide +kernel
theorem dX9_trade_183 : decode cX9_trade 183 = .ok (.aload_n 0, 1) := by decide +kernel
theorem dX9_trade_184 : decode cX9_trade 184 = .ok (.getfield 7, 3) := by decide +kernel
theorem dX9_trade_187 : decode cX9_trade 187 = .ok (.bipush 51, 2) := by decide +kernel
theorem dX9_trade_189 : decode cX9_trade 189 = .ok (.iload 6, 2) := by decide +kernel
theorem dX9_trade_191 : decode cX9_trade 191 = .ok (.iadd, 1) := by decide +kernel
theorem dX9_trade_192 : decode cX9_trade 192 = .ok (.iload_n 3, 1) := by decide +kernel
theorem dX9_trade_193 : decode cX9_trade 193 = .ok (.iastore, 1) := by decide +kernel
theorem dX9_trade_194 : decode cX9_trade 194 = .ok (.aload_n 0, 1) := by decide +kernel
theorem dX9_trade_195 : decode cX9_trade 195 = .ok (.getfield 7, 3) := by decide +kernel
theorem dX9_trade_198 : decode cX9_trade 198 = .ok (.bipush 99, 2) := by decide +kernel
theorem dX9_trade_200 : decode cX9_trade 200 = .ok (.iload 6, 2) := by decide +kernel
theorem dX9_trade_202 : decode cX9_trade 202 = .ok (.iadd, 1) := by decide +kernel
theorem dX9_trade_203 : decode cX9_trade 203 = .ok (.iload 4, 2) := by decide +kernel
theorem dX9_trade_205 : decode cX9_trade 205 = .ok (.iastore, 1) := by decide +kernel
theorem dX9_trade_206 : decode cX9_trade 206 = .ok (.aload_n 0, 1) := by decide +kernel
theorem dX9_trade_207 : decode cX9_trade 207 = .ok (.getfield 7, 3) := by decide +kernel
theorem dX9_trade_210 : decode cX9_trade 210 = .ok (.bipush 33, 2) := by decide +kernel
theorem dX9_trade_212 : decode cX9_trade 212 = .ok (.dup2, 1) := by decide +kernel
theorem dX9_trade_213 : decode cX9_trade 213 = .ok (.iaload, 1) := by decide +kernel
theorem dX9_trade_214 : decode cX9_trade 214 = .ok (.iconst 1, 1) := by decide +kernel
theorem dX9_trade_215 : decode cX9_trade 215 = .ok (.iadd, 1) := by decide +kernel
theorem dX9_trade_216 : decode cX9_trade 216 = .ok (.iastore, 1) := by decide +kernel
theorem dX9_trade_217 : decode cX9_trade 217 = .ok (.aload_n 0, 1) := by decide +kernel
theorem dX9_trade_218 : decode cX9_trade 218 = .ok (.getfield 7, 3) := by decide +kernel
theorem dX9_trade_221 : decode cX9_trade 221 = .ok (.iconst 2, 1) := by decide +kernel
theorem dX9_trade_222 : decode cX9_trade 222 = .ok (.iload 7, 2) := by decide +kernel
theorem dX9_trade_224 : decode cX9_trade 224 = .ok (.iadd, 1) := by decide +kernel
theorem dX9_trade_225 : decode cX9_trade 225 = .ok (.iaload, 1) := by decide +kernel
theorem dX9_trade_226 : decode cX9_trade 226 = .ok (.ireturn, 1) := by decide +kernel
theorem dX9_done_0 : decode cX9_done 0 = .ok (.aload_n 0, 1) := by decide +kernel
theorem dX9_done_1 : decode cX9_done 1 = .ok (.iconst 0, 1) := by decide +kernel
theorem dX9_done_2 : decode cX9_done 2 = .ok (.bipush 6, 2) := by decide +kernel
theorem dX9_done_4 : decode cX9_done 4 = .ok (.invokevirtual 31, 3) := by decide +kernel
theorem dX9_done_7 : decode cX9_done 7 = .ok (.aload_n 0, 1) := by decide +kernel
theorem dX9_done_8 : decode cX9_done 8 = .ok (.aload_n 0, 1) := by decide +kernel
theorem dX9_done_9 : decode cX9_done 9 = .ok (.bipush 6, 2) := by decide +kernel
theorem dX9_done_11 : decode cX9_done 11 = .ok (.iload_n 1, 1) := by decide +kernel
theorem dX9_done_12 : decode cX9_done 12 = .ok (.invokevirtual 99, 3) := by decide +kernel
theorem dX9_done_15 : decode cX9_done 15 = .ok (.invokevirtual 90, 3) := by decide +kernel
theorem dX9_done_18 : decode cX9_done 18 = .ok (.ireturn, 1) := by decide +kernel
theorem dX9_nextDay_0 : decode cX9_nextDay 0 = .ok (.aload_n 0, 1) := by decide +kernel
theorem dX9_nextDay_1 : decode cX9_nextDay 1 = .ok (.iconst 0, 1) := by decide +kernel
theorem dX9_nextDay_2 : decode cX9_nextDay 2 = .ok (.bipush 6, 2) := by decide +kernel
theorem dX9_nextDay_4 : decode cX9_nextDay 4 = .ok (.invokevirtual 31, 3) := by decide +kernel
theorem dX9_nextDay_7 : decode cX9_nextDay 7 = .ok (.aload_n 0, 1) := by decide +kernel
theorem dX9_nextDay_8 : decode cX9_nextDay 8 = .ok (.aload_n 0, 1) := by decide +kernel
theorem dX9_nextDay_9 : decode cX9_nextDay 9 = .ok (.bipush 6, 2) := by decide +kernel
theorem dX9_nextDay_11 : decode cX9_nextDay 11 = .ok (.invokevirtual 102, 3) := by decide +kernel
theorem dX9_nextDay_14 : decode cX9_nextDay 14 = .ok (.invokevirtual 90, 3) := by decide +kernel
theorem dX9_nextDay_17 : decode cX9_nextDay 17 = .ok (.ireturn, 1) := by decide +kernel
theorem dX9_isNext_0 : decode cX9_isNext 0 = .ok (.aload_n 0, 1) := by decide +kernel
theorem dX9_isNext_1 : decode cX9_isNext 1 = .ok (.getfield 105, 3) := by decide +kernel
theorem dX9_isNext_4 : decode cX9_isNext 4 = .ok (.ifCond .eq 35, 3) := by decide +kernel
theorem dX9_isNext_7 : decode cX9_isNext 7 = .ok (.aload_n 0, 1) := by decide +kernel
theorem dX9_isNext_8 : decode cX9_isNext 8 = .ok (.getfield 109, 3) := by decide +kernel
theorem dX9_isNext_11 : decode cX9_isNext 11 = .ok (.aload_n 0, 1) := by decide +kernel
theorem dX9_isNext_12 : decode cX9_isNext 12 = .ok (.getfield 112, 3) := by decide +kernel
theorem dX9_isNext_15 : decode cX9_isNext 15 = .ok (.if_icmp .ge 24, 3) := by decide +kernel
theorem dX9_isNext_18 : decode cX9_isNext 18 = .ok (.aload_n 0, 1) := by decide +kernel
theorem dX9_isNext_19 : decode cX9_isNext 19 = .ok (.getfield 13, 3) := by decide +kernel
theorem dX9_isNext_22 : decode cX9_isNext 22 = .ok (.aload_n 0, 1) := by decide +kernel
theorem dX9_isNext_23 : decode cX9_isNext 23 = .ok (.getfield 109, 3) := by decide +kernel
theorem dX9_isNext_26 : decode cX9_isNext 26 = .ok (.caload, 1) := by decide +kernel
theorem dX9_isNext_27 : decode cX9_isNext 27 = .ok (.iload_n 1, 1) := by decide +kernel
theorem dX9_isNext_28 : decode cX9_isNext 28 = .ok (.iload_n 2, 1) := by decide +kernel
theorem dX9_isNext_29 : decode cX9_isNext 29 = .ok (.invokestatic 53, 3) := by decide +kernel
theorem dX9_isNext_32 : decode cX9_isNext 32 = .ok (.ifCond .eq 7, 3) := by decide +kernel
theorem dX9_isNext_35 : decode cX9_isNext 35 = .ok (.iconst 1, 1) := by decide +kernel
theorem dX9_isNext_36 : decode cX9_isNext 36 = .ok (.goto 4, 3) := by decide +kernel
theorem dX9_isNext_39 : decode cX9_isNext 39 = .ok (.iconst 0, 1) := by decide +kernel
theorem dX9_isNext_40 : decode cX9_isNext 40 = .ok (.ireturn, 1) := by decide +kernel
theorem dX9_takes_0 : decode cX9_takes 0 = .ok (.aload_n 0, 1) := by decide +kernel
theorem dX9_takes_1 : decode cX9_takes 1 = .ok (.aload_n 0, 1) := by decide +kernel
theorem dX9_takes_2 : decode cX9_takes 2 = .ok (.iload_n 1, 1) := by decide +kernel
theorem dX9_takes_3 : decode cX9_takes 3 = .ok (.iload_n 1, 1) := by decide +kernel
theorem dX9_takes_4 : decode cX9_takes 4 = .ok (.invokevirtual 115, 3) := by decide +kernel
theorem dX9_takes_7 : decode cX9_takes 7 = .ok (.putfield 105, 3) := by decide +kernel
theorem dX9_takes_10 : decode cX9_takes 10 = .ok (.aload_n 0, 1) := by decide +kernel
theorem dX9_takes_11 : decode cX9_takes 11 = .ok (.dup, 1) := by decide +kernel
theorem dX9_takes_12 : decode cX9_takes 12 = .ok (.getfield 109, 3) := by decide +kernel
theorem dX9_takes_15 : decode cX9_takes 15 = .ok (.aload_n 0, 1) := by decide +kernel
theorem dX9_takes_16 : decode cX9_takes 16 = .ok (.getfield 105, 3) := by decide +kernel
theorem dX9_takes_19 : decode cX9_takes 19 = .ok (.ifCond .eq 7, 3) := by decide +kernel
theorem dX9_takes_22 : decode cX9_takes 22 = .ok (.iconst 1, 1) := by decide +kernel
theorem dX9_takes_23 : decode cX9_takes 23 = .ok (.goto 4, 3) := by decide +kernel
theorem dX9_takes_26 : decode cX9_takes 26 = .ok (.iconst 0, 1) := by decide +kernel
theorem dX9_takes_27 : decode cX9_takes 27 = .ok (.iadd, 1) := by decide +kernel
theorem dX9_takes_28 : decode cX9_takes 28 = .ok (.putfield 109, 3) := by decide +kernel
theorem dX9_takes_31 : decode cX9_takes 31 = .ok (.return_, 1) := by decide +kernel
theorem dX9_number_0 : decode cX9_number 0 = .ok (.aload_n 0, 1) := by decide +kernel
theorem dX9_number_1 : decode cX9_number 1 = .ok (.aload_n 0, 1) := by decide +kernel
theorem dX9_number_2 : decode cX9_number 2 = .ok (.iload_n 1, 1) := by decide +kernel
theorem dX9_number_3 : decode cX9_number 3 = .ok (.ifCond .le 8, 3) := by decide +kernel
theorem dX9_number_6 : decode cX9_number 6 = .ok (.bipush 49, 2) := by decide +kernel
theorem dX9_number_8 : decode cX9_number 8 = .ok (.goto 5, 3) := by decide +kernel
theorem dX9_number_11 : decode cX9_number 11 = .ok (.bipush 48, 2) := by decide +kernel
theorem dX9_number_13 : decode cX9_number 13 = .ok (.iload_n 2, 1) := by decide +kernel
theorem dX9_number_14 : decode cX9_number 14 = .ok (.bipush 9, 2) := by decide +kernel
theorem dX9_number_16 : decode cX9_number 16 = .ok (.if_icmp .ge 10, 3) := by decide +kernel
theorem dX9_number_19 : decode cX9_number 19 = .ok (.bipush 48, 2) := by decide +kernel
theorem dX9_number_21 : decode cX9_number 21 = .ok (.iload_n 2, 1) := by decide +kernel
theorem dX9_number_22 : decode cX9_number 22 = .ok (.iadd, 1) := by decide +kernel
theorem dX9_number_23 : decode cX9_number 23 = .ok (.goto 5, 3) := by decide +kernel
theorem dX9_number_26 : decode cX9_number 26 = .ok (.bipush 57, 2) := by decide +kernel
theorem dX9_number_28 : decode cX9_number 28 = .ok (.invokevirtual 115, 3) := by decide +kernel
theorem dX9_number_31 : decode cX9_number 31 = .ok (.putfield 105, 3) := by decide +kernel
theorem dX9_number_34 : decode cX9_number 34 = .ok (.aload_n 0, 1) := by decide +kernel
theorem dX9_number_35 : decode cX9_number 35 = .ok (.getfield 105, 3) := by decide +kernel
theorem dX9_number_38 : decode cX9_number 38 = .ok (.ifCond .eq 18, 3) := by decide +kernel
theorem dX9_number_41 : decode cX9_number 41 = .ok (.aload_n 0, 1) := by decide +kernel
theorem dX9_number_42 : decode cX9_number 42 = .ok (.getfield 13, 3) := by decide +kernel
theorem dX9_number_45 : decode cX9_number 45 = .ok (.aload_n 0, 1) := by decide +kernel
theorem dX9_number_46 : decode cX9_number 46 = .ok (.getfield 109, 3) := by decide +kernel
theorem dX9_number_49 : decode cX9_number 49 = .ok (.caload, 1) := by decide +kernel
theorem dX9_number_50 : decode cX9_number 50 = .ok (.bipush 48, 2) := by decide +kernel
theorem dX9_number_52 : decode cX9_number 52 = .ok (.isub, 1) := by decide +kernel
theorem dX9_number_53 : decode cX9_number 53 = .ok (.goto 4, 3) := by decide +kernel
theorem dX9_number_56 : decode cX9_number 56 = .ok (.iconst 0, 1) := by decide +kernel
theorem dX9_number_57 : decode cX9_number 57 = .ok (.istore_n 3, 1) := by decide +kernel
theorem dX9_number_58 : decode cX9_number 58 = .ok (.aload_n 0, 1) := by decide +kernel
theorem dX9_number_59 : decode cX9_number 59 = .ok (.dup, 1) := by decide +kernel
theorem dX9_number_60 : decode cX9_number 60 = .ok (.getfield 109, 3) := by decide +kernel
theorem dX9_number_63 : decode cX9_number 63 = .ok (.aload_n 0, 1) := by decide +kernel
theorem dX9_number_64 : decode cX9_number 64 = .ok (.getfield 105, 3) := by decide +kernel
theorem dX9_number_67 : decode cX9_number 67 = .ok (.ifCond .eq 7, 3) := by decide +kernel
theorem dX9_number_70 : decode cX9_number 70 = .ok (.iconst 1, 1) := by decide +kernel
theorem dX9_number_71 : decode cX9_number 71 = .ok (.goto 4, 3) := by decide +kernel
theorem dX9_number_74 : decode cX9_number 74 = .ok (.iconst 0, 1) := by decide +kernel
theorem dX9_number_75 : decode cX9_number 75 = .ok (.iadd, 1) := by decide +kernel
theorem dX9_number_76 : decode cX9_number 76 = .ok (.putfield 109, 3) := by decide +kernel
theorem dX9_number_79 : decode cX9_number 79 = .ok (.iload_n 3, 1) := by decide +kernel
theorem dX9_number_80 : decode cX9_number 80 = .ok (.ifCond .le 66, 3) := by decide +kernel
theorem dX9_number_83 : decode cX9_number 83 = .ok (.aload_n 0, 1) := by decide +kernel
theorem dX9_number_84 : decode cX9_number 84 = .ok (.bipush 48, 2) := by decide +kernel
theorem dX9_number_86 : decode cX9_number 86 = .ok (.bipush 57, 2) := by decide +kernel
theorem dX9_number_88 : decode cX9_number 88 = .ok (.invokevirtual 115, 3) := by decide +kernel
theorem dX9_number_91 : decode cX9_number 91 = .ok (.ifCond .eq 55, 3) := by decide +kernel
theorem dX9_number_94 : decode cX9_number 94 = .ok (.bipush 10, 2) := by decide +kernel
theorem dX9_number_96 : decode cX9_number 96 = .ok (.iload_n 3, 1) := by decide +kernel
theorem dX9_number_97 : decode cX9_number 97 = .ok (.imul, 1) := by decide +kernel
theorem dX9_number_98 : decode cX9_number 98 = .ok (.aload_n 0, 1) := by decide +kernel
theorem dX9_number_99 : decode cX9_number 99 = .ok (.getfield 13, 3) := by decide +kernel
theorem dX9_number_102 : decode cX9_number 102 = .ok (.aload_n 0, 1) := by decide +kernel
theorem dX9_number_103 : decode cX9_number 103 = .ok (.getfield 109, 3) := by decide +kernel
theorem dX9_number_106 : decode cX9_number 106 = .ok (.caload, 1) := by decide +kernel
theorem dX9_number_107 : decode cX9_number 107 = .ok (.iadd, 1) := by decide +kernel
theorem dX9_number_108 : decode cX9_number 108 = .ok (.bipush 48, 2) := by decide +kernel
theorem dX9_number_110 : decode cX9_number 110 = .ok (.isub, 1) := by decide +kernel
theorem dX9_number_111 : decode cX9_number 111 = .ok (.iload_n 2, 1) := by decide +kernel
theorem dX9_number_112 : decode cX9_number 112 = .ok (.if_icmp .gt 34, 3) := by decide +kernel
theorem dX9_number_115 : decode cX9_number 115 = .ok (.bipush 10, 2) := by decide +kernel
theorem dX9_number_117 : decode cX9_number 117 = .ok (.iload_n 3, 1) := by decide +kernel
theorem dX9_number_118 : decode cX9_number 118 = .ok (.imul, 1) := by decide +kernel
theorem dX9_number_119 : decode cX9_number 119 = .ok (.aload_n 0, 1) := by decide +kernel
theorem dX9_number_120 : decode cX9_number 120 = .ok (.getfield 13, 3) := by decide +kernel
theorem dX9_number_123 : decode cX9_number 123 = .ok (.aload_n 0, 1) := by decide +kernel
theorem dX9_number_124 : decode cX9_number 124 = .ok (.getfield 109, 3) := by decide +kernel
theorem dX9_number_127 : decode cX9_number 127 = .ok (.caload, 1) := by decide +kernel
theorem dX9_number_128 : decode cX9_number 128 = .ok (.iadd, 1) := by decide +kernel
theorem dX9_number_129 : decode cX9_number 129 = .ok (.bipush 48, 2) := by decide +kernel
theorem dX9_number_131 : decode cX9_number 131 = .ok (.isub, 1) := by decide +kernel
theorem dX9_number_132 : decode cX9_number 132 = .ok (.istore_n 3, 1) := by decide +kernel
theorem dX9_number_133 : decode cX9_number 133 = .ok (.aload_n 0, 1) := by decide +kernel
theorem dX9_number_134 : decode cX9_number 134 = .ok (.dup, 1) := by decide +kernel
theorem dX9_number_135 : decode cX9_number 135 = .ok (.getfield 109, 3) := by decide +kernel
theorem dX9_number_138 : decode cX9_number 138 = .ok (.iconst 1, 1) := by decide +kernel
theorem dX9_number_139 : decode cX9_number 139 = .ok (.iadd, 1) := by decide +kernel
theorem dX9_number_140 : decode cX9_number 140 = .ok (.putfield 109, 3) := by decide +kernel
theorem dX9_number_143 : decode cX9_number 143 = .ok (.goto (-64), 3) := by decide +kernel
theorem dX9_number_146 : decode cX9_number 146 = .ok (.iload_n 3, 1) := by decide +kernel
theorem dX9_number_147 : decode cX9_number 147 = .ok (.ireturn, 1) := by decide +kernel
theorem dX9_reads_0 : decode cX9_reads 0 = .ok (.bipush 6, 2) := by decide +kernel
theorem dX9_reads_2 : decode cX9_reads 2 = .ok (.aload_n 0, 1) := by decide +kernel
theorem dX9_reads_3 : decode cX9_reads 3 = .ok (.getfield 118, 3) := by decide +kernel
theorem dX9_reads_6 : decode cX9_reads 6 = .ok (.imul, 1) := by decide +kernel
theorem dX9_reads_7 : decode cX9_reads 7 = .ok (.istore_n 1, 1) := by decide +kernel
theorem dX9_reads_8 : decode cX9_reads 8 = .ok (.aload_n 0, 1) := by decide +kernel
theorem dX9_reads_9 : decode cX9_reads 9 = .ok (.getfield 105, 3) := by decide +kernel
theorem dX9_reads_12 : decode cX9_reads 12 = .ok (.ifCond .eq 26, 3) := by decide +kernel
theorem dX9_reads_15 : decode cX9_reads 15 = .ok (.aload_n 0, 1) := by decide +kernel
theorem dX9_reads_16 : decode cX9_reads 16 = .ok (.getfield 109, 3) := by decide +kernel
theorem dX9_reads_19 : decode cX9_reads 19 = .ok (.aload_n 0, 1) := by decide +kernel
theorem dX9_reads_20 : decode cX9_reads 20 = .ok (.getfield 112, 3) := by decide +kernel
theorem dX9_reads_23 : decode cX9_reads 23 = .ok (.if_icmp .ge 15, 3) := by decide +kernel
theorem dX9_reads_26 : decode cX9_reads 26 = .ok (.aload_n 0, 1) := by decide +kernel
theorem dX9_reads_27 : decode cX9_reads 27 = .ok (.getfield 13, 3) := by decide +kernel
theorem dX9_reads_30 : decode cX9_reads 30 = .ok (.aload_n 0, 1) := by decide +kernel
theorem dX9_reads_31 : decode cX9_reads 31 = .ok (.getfield 109, 3) := by decide +kernel
theorem dX9_reads_34 : decode cX9_reads 34 = .ok (.caload, 1) := by decide +kernel
theorem dX9_reads_35 : decode cX9_reads 35 = .ok (.goto 4, 3) := by decide +kernel
theorem dX9_reads_38 : decode cX9_reads 38 = .ok (.iconst 0, 1) := by decide +kernel
theorem dX9_reads_39 : decode cX9_reads 39 = .ok (.istore_n 2, 1) := by decide +kernel
theorem dX9_reads_40 : decode cX9_reads 40 = .ok (.aload_n 0, 1) := by decide +kernel
theorem dX9_reads_41 : decode cX9_reads 41 = .ok (.aload_n 0, 1) := by decide +kernel
theorem dX9_reads_42 : decode cX9_reads 42 = .ok (.getfield 105, 3) := by decide +kernel
theorem dX9_reads_45 : decode cX9_reads 45 = .ok (.ifCond .eq 31, 3) := by decide +kernel
theorem dX9_reads_48 : decode cX9_reads 48 = .ok (.iload_n 2, 1) := by decide +kernel
theorem dX9_reads_49 : decode cX9_reads 49 = .ok (.bipush 98, 2) := by decide +kernel
theorem dX9_reads_51 : decode cX9_reads 51 = .ok (.if_icmp .eq 21, 3) := by decide +kernel
theorem dX9_reads_54 : decode cX9_reads 54 = .ok (.iload_n 2, 1) := by decide +kernel
theorem dX9_reads_55 : decode cX9_reads 55 = .ok (.bipush 101, 2) := by decide +kernel
theorem dX9_reads_57 : decode cX9_reads 57 = .ok (.if_icmp .eq 15, 3) := by decide +kernel
theorem dX9_reads_60 : decode cX9_reads 60 = .ok (.iload_n 2, 1) := by decide +kernel
theorem dX9_reads_61 : decode cX9_reads 61 = .ok (.bipush 100, 2) := by decide +kernel
theorem dX9_reads_63 : decode cX9_reads 63 = .ok (.if_icmp .eq 9, 3) := by decide +kernel
theorem dX9_reads_66 : decode cX9_reads 66 = .ok (.iload_n 2, 1) := by decide +kernel
theorem dX9_reads_67 : decode cX9_reads 67 = .ok (.bipush 110, 2) := by decide +kernel
theorem dX9_reads_69 : decode cX9_reads 69 = .ok (.if_icmp .ne 7, 3) := by decide +kernel
theorem dX9_reads_72 : decode cX9_reads 72 = .ok (.iconst 1, 1) := by decide +kernel
theorem dX9_reads_73 : decode cX9_reads 73 = .ok (.goto 4, 3) := by decide +kernel
theorem dX9_reads_76 : decode cX9_reads 76 = .ok (.iconst 0, 1) := by decide +kernel
theorem dX9_reads_77 : decode cX9_reads 77 = .ok (.putfield 105, 3) := by decide +kernel
theorem dX9_reads_80 : decode cX9_reads 80 = .ok (.aload_n 0, 1) := by decide +kernel
theorem dX9_reads_81 : decode cX9_reads 81 = .ok (.getfield 105, 3) := by decide +kernel
theorem dX9_reads_84 : decode cX9_reads 84 = .ok (.ifCond .ne 4, 3) := by decide +kernel
theorem dX9_reads_87 : decode cX9_reads 87 = .ok (.return_, 1) := by decide +kernel
theorem dX9_reads_88 : decode cX9_reads 88 = .ok (.aload_n 0, 1) := by decide +kernel
theorem dX9_reads_89 : decode cX9_reads 89 = .ok (.dup, 1) := by decide +kernel
theorem dX9_reads_90 : decode cX9_reads 90 = .ok (.getfield 109, 3) := by decide +kernel
theorem dX9_reads_93 : decode cX9_reads 93 = .ok (.iconst 1, 1) := by decide +kernel
theorem dX9_reads_94 : decode cX9_reads 94 = .ok (.iadd, 1) := by decide +kernel
theorem dX9_reads_95 : decode cX9_reads 95 = .ok (.putfield 109, 3) := by decide +kernel
theorem dX9_reads_98 : decode cX9_reads 98 = .ok (.aload_n 0, 1) := by decide +kernel
theorem dX9_reads_99 : decode cX9_reads 99 = .ok (.getfield 17, 3) := by decide +kernel
theorem dX9_reads_102 : decode cX9_reads 102 = .ok (.iload_n 1, 1) := by decide +kernel
theorem dX9_reads_103 : decode cX9_reads 103 = .ok (.iload_n 2, 1) := by decide +kernel
theorem dX9_reads_104 : decode cX9_reads 104 = .ok (.iastore, 1) := by decide +kernel
theorem dX9_reads_105 : decode cX9_reads 105 = .ok (.iload_n 2, 1) := by decide +kernel
theorem dX9_reads_106 : decode cX9_reads 106 = .ok (.bipush 98, 2) := by decide +kernel
theorem dX9_reads_108 : decode cX9_reads 108 = .ok (.if_icmp .ne 104, 3) := by decide +kernel
theorem dX9_reads_111 : decode cX9_reads 111 = .ok (.aload_n 0, 1) := by decide +kernel
theorem dX9_reads_112 : decode cX9_reads 112 = .ok (.getfield 17, 3) := by decide +kernel
theorem dX9_reads_115 : decode cX9_reads 115 = .ok (.iload_n 1, 1) := by decide +kernel
theorem dX9_reads_116 : decode cX9_reads 116 = .ok (.iconst 1, 1) := by decide +kernel
theorem dX9_reads_117 : decode cX9_reads 117 = .ok (.iadd, 1) := by decide +kernel
theorem dX9_reads_118 : decode cX9_reads 118 = .ok (.aload_n 0, 1) := by decide +kernel
theorem dX9_reads_119 : decode cX9_reads 119 = .ok (.iconst 0, 1) := by decide +kernel
theorem dX9_reads_120 : decode cX9_reads 120 = .ok (.iconst 5, 1) := by decide +kernel
theorem dX9_reads_121 : decode cX9_reads 121 = .ok (.invokevirtual 121, 3) := by decide +kernel
theorem dX9_reads_124 : decode cX9_reads 124 = .ok (.iastore, 1) := by decide +kernel
theorem dX9_reads_125 : decode cX9_reads 125 = .ok (.aload_n 0, 1) := by decide +kernel
theorem dX9_reads_126 : decode cX9_reads 126 = .ok (.bipush 99, 2) := by decide +kernel
theorem dX9_reads_128 : decode cX9_reads 128 = .ok (.invokevirtual 124, 3) := by decide +kernel
theorem dX9_reads_131 : decode cX9_reads 131 = .ok (.aload_n 0, 1) := by decide +kernel
theorem dX9_reads_132 : decode cX9_reads 132 = .ok (.getfield 17, 3) := by decide +kernel
theorem dX9_reads_135 : decode cX9_reads 135 = .ok (.iload_n 1, 1) := by decide +kernel
theorem dX9_reads_136 : decode cX9_reads 136 = .ok (.iconst 2, 1) := by decide +kernel
theorem dX9_reads_137 : decode cX9_reads 137 = .ok (.iadd, 1) := by decide +kernel
theorem dX9_reads_138 : decode cX9_reads 138 = .ok (.aload_n 0, 1) := by decide +kernel
theorem dX9_reads_139 : decode cX9_reads 139 = .ok (.iconst 0, 1) := by decide +kernel
theorem dX9_reads_140 : decode cX9_reads 140 = .ok (.iconst 2, 1) := by decide +kernel
theorem dX9_reads_141 : decode cX9_reads 141 = .ok (.invokevirtual 121, 3) := by decide +kernel
theorem dX9_reads_144 : decode cX9_reads 144 = .ok (.iastore, 1) := by decide +kernel
theorem dX9_reads_145 : decode cX9_reads 145 = .ok (.aload_n 0, 1) := by decide +kernel
theorem dX9_reads_146 : decode cX9_reads 146 = .ok (.bipush 104, 2) := by decide +kernel
theorem dX9_reads_148 : decode cX9_reads 148 = .ok (.invokevirtual 124, 3) := by decide +kernel
theorem dX9_reads_151 : decode cX9_reads 151 = .ok (.aload_n 0, 1) := by decide +kernel
theorem dX9_reads_152 : decode cX9_reads 152 = .ok (.getfield 17, 3) := by decide +kernel
theorem dX9_reads_155 : decode cX9_reads 155 = .ok (.iload_n 1, 1) := by decide +kernel
theorem dX9_reads_156 : decode cX9_reads 156 = .ok (.iconst 3, 1) := by decide +kernel
theorem dX9_reads_157 : decode cX9_reads 157 = .ok (.iadd, 1) := by decide +kernel
theorem dX9_reads_158 : decode cX9_reads 158 = .ok (.aload_n 0, 1) := by decide +kernel
theorem dX9_reads_159 : decode cX9_reads 159 = .ok (.iconst 0, 1) := by decide +kernel
theorem dX9_reads_160 : decode cX9_reads 160 = .ok (.bipush 15, 2) := by decide +kernel
theorem dX9_reads_162 : decode cX9_reads 162 = .ok (.invokevirtual 121, 3) := by decide +kernel
theorem dX9_reads_165 : decode cX9_reads 165 = .ok (.iastore, 1) := by decide +kernel
theorem dX9_reads_166 : decode cX9_reads 166 = .ok (.aload_n 0, 1) := by decide +kernel
theorem dX9_reads_167 : decode cX9_reads 167 = .ok (.bipush 119, 2) := by decide +kernel
theorem dX9_reads_169 : decode cX9_reads 169 = .ok (.invokevirtual 124, 3) := by decide +kernel
theorem dX9_reads_172 : decode cX9_reads 172 = .ok (.aload_n 0, 1) := by decide +kernel
theorem dX9_reads_173 : decode cX9_reads 173 = .ok (.getfield 17, 3) := by decide +kernel
theorem dX9_reads_176 : decode cX9_reads 176 = .ok (.iload_n 1, 1) := by decide +kernel
theorem dX9_reads_177 : decode cX9_reads 177 = .ok (.iconst 4, 1) := by decide +kernel
theorem dX9_reads_178 : decode cX9_reads 178 = .ok (.iadd, 1) := by decide +kernel
theorem dX9_reads_179 : decode cX9_reads 179 = .ok (.aload_n 0, 1) := by decide +kernel
theorem dX9_reads_180 : decode cX9_reads 180 = .ok (.iconst 1, 1) := by decide +kernel
theorem dX9_reads_181 : decode cX9_reads 181 = .ok (.bipush 60, 2) := by decide +kernel
theorem dX9_reads_183 : decode cX9_reads 183 = .ok (.invokevirtual 121, 3) := by decide +kernel
theorem dX9_reads_186 : decode cX9_reads 186 = .ok (.iastore, 1) := by decide +kernel
theorem dX9_reads_187 : decode cX9_reads 187 = .ok (.aload_n 0, 1) := by decide +kernel
theorem dX9_reads_188 : decode cX9_reads 188 = .ok (.bipush 61, 2) := by decide +kernel
theorem dX9_reads_190 : decode cX9_reads 190 = .ok (.invokevirtual 124, 3) := by decide +kernel
theorem dX9_reads_193 : decode cX9_reads 193 = .ok (.aload_n 0, 1) := by decide +kernel
theorem dX9_reads_194 : decode cX9_reads 194 = .ok (.getfield 17, 3) := by decide +kernel
theorem dX9_reads_197 : decode cX9_reads 197 = .ok (.iload_n 1, 1) := by decide +kernel
theorem dX9_reads_198 : decode cX9_reads 198 = .ok (.iconst 5, 1) := by decide +kernel
theorem dX9_reads_199 : decode cX9_reads 199 = .ok (.iadd, 1) := by decide +kernel
theorem dX9_reads_200 : decode cX9_reads 200 = .ok (.aload_n 0, 1) := by decide +kernel
theorem dX9_reads_201 : decode cX9_reads 201 = .ok (.iconst 1, 1) := by decide +kernel
theorem dX9_reads_202 : decode cX9_reads 202 = .ok (.sipush 999, 3) := by decide +kernel
theorem dX9_reads_205 : decode cX9_reads 205 = .ok (.invokevirtual 121, 3) := by decide +kernel
theorem dX9_reads_208 : decode cX9_reads 208 = .ok (.iastore, 1) := by decide +kernel
theorem dX9_reads_209 : decode cX9_reads 209 = .ok (.goto 69, 3) := by decide +kernel
theorem dX9_reads_212 : decode cX9_reads 212 = .ok (.iload_n 2, 1) := by decide +kernel
theorem dX9_reads_213 : decode cX9_reads 213 = .ok (.bipush 101, 2) := by decide +kernel
theorem dX9_reads_215 : decode cX9_reads 215 = .ok (.if_icmp .ne 42, 3) := by decide +kernel
theorem dX9_reads_218 : decode cX9_reads 218 = .ok (.aload_n 0, 1) := by decide +kernel
theorem dX9_reads_219 : decode cX9_reads 219 = .ok (.getfield 17, 3) := by decide +kernel
theorem dX9_reads_222 : decode cX9_reads 222 = .ok (.iload_n 1, 1) := by decide +kernel
theorem dX9_reads_223 : decode cX9_reads 223 = .ok (.iconst 1, 1) := by decide +kernel
theorem dX9_reads_224 : decode cX9_reads 224 = .ok (.iadd, 1) := by decide +kernel
theorem dX9_reads_225 : decode cX9_reads 225 = .ok (.aload_n 0, 1) := by decide +kernel
theorem dX9_reads_226 : decode cX9_reads 226 = .ok (.iconst 0, 1) := by decide +kernel
theorem dX9_reads_227 : decode cX9_reads 227 = .ok (.bipush 15, 2) := by decide +kernel
theorem dX9_reads_229 : decode cX9_reads 229 = .ok (.invokevirtual 121, 3) := by decide +kernel
theorem dX9_reads_232 : decode cX9_reads 232 = .ok (.iastore, 1) := by decide +kernel
theorem dX9_reads_233 : decode cX9_reads 233 = .ok (.aload_n 0, 1) := by decide +kernel
theorem dX9_reads_234 : decode cX9_reads 234 = .ok (.bipush 58, 2) := by decide +kernel
theorem dX9_reads_236 : decode cX9_reads 236 = .ok (.invokevirtual 124, 3) := by decide +kernel
theorem dX9_reads_239 : decode cX9_reads 239 = .ok (.aload_n 0, 1) := by decide +kernel
theorem dX9_reads_240 : decode cX9_reads 240 = .ok (.getfield 17, 3) := by decide +kernel
theorem dX9_reads_243 : decode cX9_reads 243 = .ok (.iload_n 1, 1) := by decide +kernel
theorem dX9_reads_244 : decode cX9_reads 244 = .ok (.iconst 2, 1) := by decide +kernel
theorem dX9_reads_245 : decode cX9_reads 245 = .ok (.iadd, 1) := by decide +kernel
theorem dX9_reads_246 : decode cX9_reads 246 = .ok (.aload_n 0, 1) := by decide +kernel
theorem dX9_reads_247 : decode cX9_reads 247 = .ok (.iconst 0, 1) := by decide +kernel
theorem dX9_reads_248 : decode cX9_reads 248 = .ok (.bipush 99, 2) := by decide +kernel
theorem dX9_reads_250 : decode cX9_reads 250 = .ok (.invokevirtual 121, 3) := by decide +kernel
theorem dX9_reads_253 : decode cX9_reads 253 = .ok (.iastore, 1) := by decide +kernel
theorem dX9_reads_254 : decode cX9_reads 254 = .ok (.goto 24, 3) := by decide +kernel
theorem dX9_reads_257 : decode cX9_reads 257 = .ok (.iload_n 2, 1) := by decide +kernel
theorem dX9_reads_258 : decode cX9_reads 258 = .ok (.bipush 100, 2) := by decide +kernel
theorem dX9_reads_260 : decode cX9_reads 260 = .ok (.if_icmp .ne 18, 3) := by decide +kernel
theorem dX9_reads_263 : decode cX9_reads 263 = .ok (.aload_n 0, 1) := by decide +kernel
theorem dX9_reads_264 : decode cX9_reads 264 = .ok (.getfield 17, 3) := by decide +kernel
theorem dX9_reads_267 : decode cX9_reads 267 = .ok (.iload_n 1, 1) := by decide +kernel
theorem dX9_reads_268 : decode cX9_reads 268 = .ok (.iconst 1, 1) := by decide +kernel
theorem dX9_reads_269 : decode cX9_reads 269 = .ok (.iadd, 1) := by decide +kernel
theorem dX9_reads_270 : decode cX9_reads 270 = .ok (.aload_n 0, 1) := by decide +kernel
theorem dX9_reads_271 : decode cX9_reads 271 = .ok (.iconst 0, 1) := by decide +kernel
theorem dX9_reads_272 : decode cX9_reads 272 = .ok (.bipush 99, 2) := by decide +kernel
theorem dX9_reads_274 : decode cX9_reads 274 = .ok (.invokevirtual 121, 3) := by decide +kernel
theorem dX9_reads_277 : decode cX9_reads 277 = .ok (.iastore, 1) := by decide +kernel
theorem dX9_reads_278 : decode cX9_reads 278 = .ok (.aload_n 0, 1) := by decide +kernel
theorem dX9_reads_279 : decode cX9_reads 279 = .ok (.dup, 1) := by decide +kernel
theorem dX9_reads_280 : decode cX9_reads 280 = .ok (.getfield 118, 3) := by decide +kernel
theorem dX9_reads_283 : decode cX9_reads 283 = .ok (.iconst 1, 1) := by decide +kernel
theorem dX9_reads_284 : decode cX9_reads 284 = .ok (.iadd, 1) := by decide +kernel
theorem dX9_reads_285 : decode cX9_reads 285 = .ok (.putfield 118, 3) := by decide +kernel
theorem dX9_reads_288 : decode cX9_reads 288 = .ok (.return_, 1) := by decide +kernel
theorem dX9_fault_0 : decode cX9_fault 0 = .ok (.aload_n 0, 1) := by decide +kernel
theorem dX9_fault_1 : decode cX9_fault 1 = .ok (.iconst 0, 1) := by decide +kernel
theorem dX9_fault_2 : decode cX9_fault 2 = .ok (.putfield 109, 3) := by decide +kernel
theorem dX9_fault_5 : decode cX9_fault 5 = .ok (.aload_n 0, 1) := by decide +kernel
theorem dX9_fault_6 : decode cX9_fault 6 = .ok (.iconst 1, 1) := by decide +kernel
theorem dX9_fault_7 : decode cX9_fault 7 = .ok (.putfield 105, 3) := by decide +kernel
theorem dX9_fault_10 : decode cX9_fault 10 = .ok (.aload_n 0, 1) := by decide +kernel
theorem dX9_fault_11 : decode cX9_fault 11 = .ok (.iconst 0, 1) := by decide +kernel
theorem dX9_fault_12 : decode cX9_fault 12 = .ok (.putfield 118, 3) := by decide +kernel
theorem dX9_fault_15 : decode cX9_fault 15 = .ok (.aload_n 0, 1) := by decide +kernel
theorem dX9_fault_16 : decode cX9_fault 16 = .ok (.invokevirtual 127, 3) := by decide +kernel
theorem dX9_fault_19 : decode cX9_fault 19 = .ok (.aload_n 0, 1) := by decide +kernel
theorem dX9_fault_20 : decode cX9_fault 20 = .ok (.getfield 105, 3) := by decide +kernel
theorem dX9_fault_23 : decode cX9_fault 23 = .ok (.ifCond .eq 27, 3) := by decide +kernel
theorem dX9_fault_26 : decode cX9_fault 26 = .ok (.aload_n 0, 1) := by decide +kernel
theorem dX9_fault_27 : decode cX9_fault 27 = .ok (.getfield 109, 3) := by decide +kernel
theorem dX9_fault_30 : decode cX9_fault 30 = .ok (.aload_n 0, 1) := by decide +kernel
theorem dX9_fault_31 : decode cX9_fault 31 = .ok (.getfield 112, 3) := by decide +kernel
theorem dX9_fault_34 : decode cX9_fault 34 = .ok (.if_icmp .ge 16, 3) := by decide +kernel
theorem dX9_fault_37 : decode cX9_fault 37 = .ok (.aload_n 0, 1) := by decide +kernel
theorem dX9_fault_38 : decode cX9_fault 38 = .ok (.bipush 44, 2) := by decide +kernel
theorem dX9_fault_40 : decode cX9_fault 40 = .ok (.invokevirtual 124, 3) := by decide +kernel
theorem dX9_fault_43 : decode cX9_fault 43 = .ok (.aload_n 0, 1) := by decide +kernel
theorem dX9_fault_44 : decode cX9_fault 44 = .ok (.invokevirtual 127, 3) := by decide +kernel
theorem dX9_fault_47 : decode cX9_fault 47 = .ok (.goto (-28), 3) := by decide +kernel
theorem dX9_fault_50 : decode cX9_fault 50 = .ok (.aload_n 0, 1) := by decide +kernel
theorem dX9_fault_51 : decode cX9_fault 51 = .ok (.getfield 105, 3) := by decide +kernel
theorem dX9_fault_54 : decode cX9_fault 54 = .ok (.ifCond .eq 7, 3) := by decide +kernel
theorem dX9_fault_57 : decode cX9_fault 57 = .ok (.iconst (-1), 1) := by decide +kernel
theorem dX9_fault_58 : decode cX9_fault 58 = .ok (.goto 7, 3) := by decide +kernel
theorem dX9_fault_61 : decode cX9_fault 61 = .ok (.aload_n 0, 1) := by decide +kernel
theorem dX9_fault_62 : decode cX9_fault 62 = .ok (.getfield 109, 3) := by decide +kernel
theorem dX9_fault_65 : decode cX9_fault 65 = .ok (.ireturn, 1) := by decide +kernel
theorem dX9_performs_0 : decode cX9_performs 0 = .ok (.bipush 6, 2) := by decide +kernel
theorem dX9_performs_2 : decode cX9_performs 2 = .ok (.iload_n 1, 1) := by decide +kernel
theorem dX9_performs_3 : decode cX9_performs 3 = .ok (.imul, 1) := by decide +kernel
theorem dX9_performs_4 : decode cX9_performs 4 = .ok (.istore_n 2, 1) := by decide +kernel
theorem dX9_performs_5 : decode cX9_performs 5 = .ok (.aload_n 0, 1) := by decide +kernel
theorem dX9_performs_6 : decode cX9_performs 6 = .ok (.getfield 17, 3) := by decide +kernel
theorem dX9_performs_9 : decode cX9_performs 9 = .ok (.iload_n 2, 1) := by decide +kernel
theorem dX9_performs_10 : decode cX9_performs 10 = .ok (.iaload, 1) := by decide +kernel
theorem dX9_performs_11 : decode cX9_performs 11 = .ok (.tableswitch 114 98 101 #[29, 114, 99, 76], 29) := by decide +kernel
theorem dX9_performs_40 : decode cX9_performs 40 = .ok (.aload_n 0, 1) := by decide +kernel
theorem dX9_performs_41 : decode cX9_performs 41 = .ok (.bipush 6, 2) := by decide +kernel
theorem dX9_performs_43 : decode cX9_performs 43 = .ok (.aload_n 0, 1) := by decide +kernel
theorem dX9_performs_44 : decode cX9_performs 44 = .ok (.getfield 17, 3) := by decide +kernel
theorem dX9_performs_47 : decode cX9_performs 47 = .ok (.iload_n 2, 1) := by decide +kernel
theorem dX9_performs_48 : decode cX9_performs 48 = .ok (.iconst 1, 1) := by decide +kernel
theorem dX9_performs_49 : decode cX9_performs 49 = .ok (.iadd, 1) := by decide +kernel
theorem dX9_performs_50 : decode cX9_performs 50 = .ok (.iaload, 1) := by decide +kernel
theorem dX9_performs_51 : decode cX9_performs 51 = .ok (.aload_n 0, 1) := by decide +kernel
theorem dX9_performs_52 : decode cX9_performs 52 = .ok (.getfield 17, 3) := by decide +kernel
theorem dX9_performs_55 : decode cX9_performs 55 = .ok (.iload_n 2, 1) := by decide +kernel
theorem dX9_performs_56 : decode cX9_performs 56 = .ok (.iconst 2, 1) := by decide +kernel
theorem dX9_performs_57 : decode cX9_performs 57 = .ok (.iadd, 1) := by decide +kernel
theorem dX9_performs_58 : decode cX9_performs 58 = .ok (.iaload, 1) := by decide +kernel
theorem dX9_performs_59 : decode cX9_performs 59 = .ok (.aload_n 0, 1) := by decide +kernel
theorem dX9_performs_60 : decode cX9_performs 60 = .ok (.getfield 17, 3) := by decide +kernel
theorem dX9_performs_63 : decode cX9_performs 63 = .ok (.iload_n 2, 1) := by decide +kernel
theorem dX9_performs_64 : decode cX9_performs 64 = .ok (.iconst 3, 1) := by decide +kernel
theorem dX9_performs_65 : decode cX9_performs 65 = .ok (.iadd, 1) := by decide +kernel
theorem dX9_performs_66 : decode cX9_performs 66 = .ok (.iaload, 1) := by decide +kernel
theorem dX9_performs_67 : decode cX9_performs 67 = .ok (.aload_n 0, 1) := by decide +kernel
theorem dX9_performs_68 : decode cX9_performs 68 = .ok (.getfield 17, 3) := by decide +kernel
theorem dX9_performs_71 : decode cX9_performs 71 = .ok (.iload_n 2, 1) := by decide +kernel
theorem dX9_performs_72 : decode cX9_performs 72 = .ok (.iconst 4, 1) := by decide +kernel
theorem dX9_performs_73 : decode cX9_performs 73 = .ok (.iadd, 1) := by decide +kernel
theorem dX9_performs_74 : decode cX9_performs 74 = .ok (.iaload, 1) := by decide +kernel
theorem dX9_performs_75 : decode cX9_performs 75 = .ok (.aload_n 0, 1) := by decide +kernel
theorem dX9_performs_76 : decode cX9_performs 76 = .ok (.getfield 17, 3) := by decide +kernel
theorem dX9_performs_79 : decode cX9_performs 79 = .ok (.iload_n 2, 1) := by decide +kernel
theorem dX9_performs_80 : decode cX9_performs 80 = .ok (.iconst 5, 1) := by decide +kernel
theorem dX9_performs_81 : decode cX9_performs 81 = .ok (.iadd, 1) := by decide +kernel
theorem dX9_performs_82 : decode cX9_performs 82 = .ok (.iaload, 1) := by decide +kernel
theorem dX9_performs_83 : decode cX9_performs 83 = .ok (.invokevirtual 93, 3) := by decide +kernel
theorem dX9_performs_86 : decode cX9_performs 86 = .ok (.ireturn, 1) := by decide +kernel
theorem dX9_performs_87 : decode cX9_performs 87 = .ok (.aload_n 0, 1) := by decide +kernel
theorem dX9_performs_88 : decode cX9_performs 88 = .ok (.bipush 6, 2) := by decide +kernel
theorem dX9_performs_90 : decode cX9_performs 90 = .ok (.aload_n 0, 1) := by decide +kernel
theorem dX9_performs_91 : decode cX9_performs 91 = .ok (.getfield 17, 3) := by decide +kernel
theorem dX9_performs_94 : decode cX9_performs 94 = .ok (.iload_n 2, 1) := by decide +kernel
theorem dX9_performs_95 : decode cX9_performs 95 = .ok (.iconst 1, 1) := by decide +kernel
theorem dX9_performs_96 : decode cX9_performs 96 = .ok (.iadd, 1) := by decide +kernel
theorem dX9_performs_97 : decode cX9_performs 97 = .ok (.iaload, 1) := by decide +kernel
theorem dX9_performs_98 : decode cX9_performs 98 = .ok (.aload_n 0, 1) := by decide +kernel
theorem dX9_performs_99 : decode cX9_performs 99 = .ok (.getfield 17, 3) := by decide +kernel
theorem dX9_performs_102 : decode cX9_performs 102 = .ok (.iload_n 2, 1) := by decide +kernel
theorem dX9_performs_103 : decode cX9_performs 103 = .ok (.iconst 2, 1) := by decide +kernel
theorem dX9_performs_104 : decode cX9_performs 104 = .ok (.iadd, 1) := by decide +kernel
theorem dX9_performs_105 : decode cX9_performs 105 = .ok (.iaload, 1) := by decide +kernel
theorem dX9_performs_106 : decode cX9_performs 106 = .ok (.invokevirtual 87, 3) := by decide +kernel
theorem dX9_performs_109 : decode cX9_performs 109 = .ok (.ireturn, 1) := by decide +kernel
theorem dX9_performs_110 : decode cX9_performs 110 = .ok (.aload_n 0, 1) := by decide +kernel
theorem dX9_performs_111 : decode cX9_performs 111 = .ok (.bipush 6, 2) := by decide +kernel
theorem dX9_performs_113 : decode cX9_performs 113 = .ok (.aload_n 0, 1) := by decide +kernel
theorem dX9_performs_114 : decode cX9_performs 114 = .ok (.getfield 17, 3) := by decide +kernel
theorem dX9_performs_117 : decode cX9_performs 117 = .ok (.iload_n 2, 1) := by decide +kernel
theorem dX9_performs_118 : decode cX9_performs 118 = .ok (.iconst 1, 1) := by decide +kernel
theorem dX9_performs_119 : decode cX9_performs 119 = .ok (.iadd, 1) := by decide +kernel
theorem dX9_performs_120 : decode cX9_performs 120 = .ok (.iaload, 1) := by decide +kernel
theorem dX9_performs_121 : decode cX9_performs 121 = .ok (.invokevirtual 99, 3) := by decide +kernel
theorem dX9_performs_124 : decode cX9_performs 124 = .ok (.ireturn, 1) := by decide +kernel
theorem dX9_performs_125 : decode cX9_performs 125 = .ok (.aload_n 0, 1) := by decide +kernel
theorem dX9_performs_126 : decode cX9_performs 126 = .ok (.bipush 6, 2) := by decide +kernel
theorem dX9_performs_128 : decode cX9_performs 128 = .ok (.invokevirtual 102, 3) := by decide +kernel
theorem dX9_performs_131 : decode cX9_performs 131 = .ok (.ireturn, 1) := by decide +kernel
theorem dX9_perform_0 : decode cX9_perform 0 = .ok (.aload_n 0, 1) := by decide +kernel
theorem dX9_perform_1 : decode cX9_perform 1 = .ok (.invokevirtual 130, 3) := by decide +kernel
theorem dX9_perform_4 : decode cX9_perform 4 = .ok (.istore_n 1, 1) := by decide +kernel
theorem dX9_perform_5 : decode cX9_perform 5 = .ok (.iload_n 1, 1) := by decide +kernel
theorem dX9_perform_6 : decode cX9_perform 6 = .ok (.ifCond .lt 8, 3) := by decide +kernel
theorem dX9_perform_9 : decode cX9_perform 9 = .ok (.bipush (-100), 2) := by decide +kernel
theorem dX9_perform_11 : decode cX9_perform 11 = .ok (.iload_n 1, 1) := by decide +kernel
theorem dX9_perform_12 : decode cX9_perform 12 = .ok (.isub, 1) := by decide +kernel
theorem dX9_perform_13 : decode cX9_perform 13 = .ok (.ireturn, 1) := by decide +kernel
theorem dX9_perform_14 : decode cX9_perform 14 = .ok (.aload_n 0, 1) := by decide +kernel
theorem dX9_perform_15 : decode cX9_perform 15 = .ok (.iconst 0, 1) := by decide +kernel
theorem dX9_perform_16 : decode cX9_perform 16 = .ok (.bipush 6, 2) := by decide +kernel
theorem dX9_perform_18 : decode cX9_perform 18 = .ok (.invokevirtual 31, 3) := by decide +kernel
theorem dX9_perform_21 : decode cX9_perform 21 = .ok (.iconst 0, 1) := by decide +kernel
theorem dX9_perform_22 : decode cX9_perform 22 = .ok (.istore_n 2, 1) := by decide +kernel
theorem dX9_perform_23 : decode cX9_perform 23 = .ok (.iload_n 2, 1) := by decide +kernel
theorem dX9_perform_24 : decode cX9_perform 24 = .ok (.aload_n 0, 1) := by decide +kernel
theorem dX9_perform_25 : decode cX9_perform 25 = .ok (.getfield 118, 3) := by decide +kernel
theorem dX9_perform_28 : decode cX9_perform 28 = .ok (.if_icmp .ge 38, 3) := by decide +kernel
theorem dX9_perform_31 : decode cX9_perform 31 = .ok (.aload_n 0, 1) := by decide +kernel
theorem dX9_perform_32 : decode cX9_perform 32 = .ok (.iload_n 2, 1) := by decide +kernel
theorem dX9_perform_33 : decode cX9_perform 33 = .ok (.invokevirtual 134, 3) := by decide +kernel
theorem dX9_perform_36 : decode cX9_perform 36 = .ok (.istore_n 3, 1) := by decide +kernel
theorem dX9_perform_37 : decode cX9_perform 37 = .ok (.iload_n 3, 1) := by decide +kernel
theorem dX9_perform_38 : decode cX9_perform 38 = .ok (.ifCond .ge 22, 3) := by decide +kernel
theorem dX9_perform_41 : decode cX9_perform 41 = .ok (.iload_n 3, 1) := by decide +kernel
theorem dX9_perform_42 : decode cX9_perform 42 = .ok (.bipush (-5), 2) := by decide +kernel
theorem dX9_perform_44 : decode cX9_perform 44 = .ok (.if_icmp .eq 16, 3) := by decide +kernel
theorem dX9_perform_47 : decode cX9_perform 47 = .ok (.aload_n 0, 1) := by decide +kernel
theorem dX9_perform_48 : decode cX9_perform 48 = .ok (.iload_n 2, 1) := by decide +kernel
theorem dX9_perform_49 : decode cX9_perform 49 = .ok (.putfield 20, 3) := by decide +kernel
theorem dX9_perform_52 : decode cX9_perform 52 = .ok (.aload_n 0, 1) := by decide +kernel
theorem dX9_perform_53 : decode cX9_perform 53 = .ok (.iload_n 3, 1) := by decide +kernel
theorem dX9_perform_54 : decode cX9_perform 54 = .ok (.putfield 137, 3) := by decide +kernel
theorem dX9_perform_57 : decode cX9_perform 57 = .ok (.bipush (-4), 2) := by decide +kernel
theorem dX9_perform_59 : decode cX9_perform 59 = .ok (.ireturn, 1) := by decide +kernel
theorem dX9_perform_60 : decode cX9_perform 60 = .ok (.iinc 2 1, 3) := by decide +kernel
theorem dX9_perform_63 : decode cX9_perform 63 = .ok (.goto (-40), 3) := by decide +kernel
theorem dX9_perform_66 : decode cX9_perform 66 = .ok (.aload_n 0, 1) := by decide +kernel
theorem dX9_perform_67 : decode cX9_perform 67 = .ok (.aload_n 0, 1) := by decide +kernel
theorem dX9_perform_68 : decode cX9_perform 68 = .ok (.getfield 118, 3) := by decide +kernel
theorem dX9_perform_71 : decode cX9_perform 71 = .ok (.invokevirtual 90, 3) := by decide +kernel
theorem dX9_perform_74 : decode cX9_perform 74 = .ok (.ireturn, 1) := by decide +kernel
theorem dX9_stopped_0 : decode cX9_stopped 0 = .ok (.iload_n 1, 1) := by decide +kernel
theorem dX9_stopped_1 : decode cX9_stopped 1 = .ok (.iconst 0, 1) := by decide +kernel
theorem dX9_stopped_2 : decode cX9_stopped 2 = .ok (.iconst 1, 1) := by decide +kernel
theorem dX9_stopped_3 : decode cX9_stopped 3 = .ok (.invokestatic 53, 3) := by decide +kernel
theorem dX9_stopped_6 : decode cX9_stopped 6 = .ok (.ifCond .ne 6, 3) := by decide +kernel
theorem dX9_stopped_9 : decode cX9_stopped 9 = .ok (.bipush (-2), 2) := by decide +kernel
theorem dX9_stopped_11 : decode cX9_stopped 11 = .ok (.ireturn, 1) := by decide +kernel
theorem dX9_stopped_12 : decode cX9_stopped 12 = .ok (.aload_n 0, 1) := by decide +kernel
theorem dX9_stopped_13 : decode cX9_stopped 13 = .ok (.getfield 20, 3) := by decide +kernel
theorem dX9_stopped_16 : decode cX9_stopped 16 = .ok (.ifCond .ge 8, 3) := by decide +kernel
theorem dX9_stopped_19 : decode cX9_stopped 19 = .ok (.bipush (-5), 2) := by decide +kernel
theorem dX9_stopped_21 : decode cX9_stopped 21 = .ok (.goto 18, 3) := by decide +kernel
theorem dX9_stopped_24 : decode cX9_stopped 24 = .ok (.iload_n 1, 1) := by decide +kernel
theorem dX9_stopped_25 : decode cX9_stopped 25 = .ok (.ifCond .ne 10, 3) := by decide +kernel
theorem dX9_stopped_28 : decode cX9_stopped 28 = .ok (.aload_n 0, 1) := by decide +kernel
theorem dX9_stopped_29 : decode cX9_stopped 29 = .ok (.getfield 20, 3) := by decide +kernel
theorem dX9_stopped_32 : decode cX9_stopped 32 = .ok (.goto 7, 3) := by decide +kernel
theorem dX9_stopped_35 : decode cX9_stopped 35 = .ok (.aload_n 0, 1) := by decide +kernel
theorem dX9_stopped_36 : decode cX9_stopped 36 = .ok (.getfield 137, 3) := by decide +kernel
theorem dX9_stopped_39 : decode cX9_stopped 39 = .ok (.ireturn, 1) := by decide +kernel
theorem dX9_type_0 : decode cX9_type 0 = .ok (.aload_n 0, 1) := by decide +kernel
theorem dX9_type_1 : decode cX9_type 1 = .ok (.getfield 112, 3) := by decide +kernel
theorem dX9_type_4 : decode cX9_type 4 = .ok (.bipush 80, 2) := by decide +kernel
theorem dX9_type_6 : decode cX9_type 6 = .ok (.if_icmp .ne 6, 3) := by decide +kernel
theorem dX9_type_9 : decode cX9_type 9 = .ok (.bipush (-3), 2) := by decide +kernel
theorem dX9_type_11 : decode cX9_type 11 = .ok (.ireturn, 1) := by decide +kernel
theorem dX9_type_12 : decode cX9_type 12 = .ok (.aload_n 0, 1) := by decide +kernel
theorem dX9_type_13 : decode cX9_type 13 = .ok (.getfield 13, 3) := by decide +kernel
theorem dX9_type_16 : decode cX9_type 16 = .ok (.aload_n 0, 1) := by decide +kernel
theorem dX9_type_17 : decode cX9_type 17 = .ok (.getfield 112, 3) := by decide +kernel
theorem dX9_type_20 : decode cX9_type 20 = .ok (.iload_n 1, 1) := by decide +kernel
theorem dX9_type_21 : decode cX9_type 21 = .ok (.castore, 1) := by decide +kernel
theorem dX9_type_22 : decode cX9_type 22 = .ok (.aload_n 0, 1) := by decide +kernel
theorem dX9_type_23 : decode cX9_type 23 = .ok (.dup, 1) := by decide +kernel
theorem dX9_type_24 : decode cX9_type 24 = .ok (.getfield 112, 3) := by decide +kernel
theorem dX9_type_27 : decode cX9_type 27 = .ok (.iconst 1, 1) := by decide +kernel
theorem dX9_type_28 : decode cX9_type 28 = .ok (.iadd, 1) := by decide +kernel
theorem dX9_type_29 : decode cX9_type 29 = .ok (.putfield 112, 3) := by decide +kernel
theorem dX9_type_32 : decode cX9_type 32 = .ok (.aload_n 0, 1) := by decide +kernel
theorem dX9_type_33 : decode cX9_type 33 = .ok (.getfield 112, 3) := by decide +kernel
theorem dX9_type_36 : decode cX9_type 36 = .ok (.ireturn, 1) := by decide +kernel
theorem dX9_clearText_0 : decode cX9_clearText 0 = .ok (.aload_n 0, 1) := by decide +kernel
theorem dX9_clearText_1 : decode cX9_clearText 1 = .ok (.getfield 112, 3) := by decide +kernel
theorem dX9_clearText_4 : decode cX9_clearText 4 = .ok (.istore_n 1, 1) := by decide +kernel
theorem dX9_clearText_5 : decode cX9_clearText 5 = .ok (.aload_n 0, 1) := by decide +kernel
theorem dX9_clearText_6 : decode cX9_clearText 6 = .ok (.iconst 0, 1) := by decide +kernel
theorem dX9_clearText_7 : decode cX9_clearText 7 = .ok (.putfield 112, 3) := by decide +kernel
theorem dX9_clearText_10 : decode cX9_clearText 10 = .ok (.iload_n 1, 1) := by decide +kernel
theorem dX9_clearText_11 : decode cX9_clearText 11 = .ok (.ireturn, 1) := by decide +kernel
theorem dX9_undo_0 : decode cX9_undo 0 = .ok (.aload_n 0, 1) := by decide +kernel
theorem dX9_undo_1 : decode cX9_undo 1 = .ok (.getfield 28, 3) := by decide +kernel
theorem dX9_undo_4 : decode cX9_undo 4 = .ok (.ifCond .ne 6, 3) := by decide +kernel
theorem dX9_undo_7 : decode cX9_undo 7 = .ok (.bipush (-5), 2) := by decide +kernel
theorem dX9_undo_9 : decode cX9_undo 9 = .ok (.ireturn, 1) := by decide +kernel
theorem dX9_undo_10 : decode cX9_undo 10 = .ok (.aload_n 0, 1) := by decide +kernel
theorem dX9_undo_11 : decode cX9_undo 11 = .ok (.aload_n 0, 1) := by decide +kernel
theorem dX9_undo_12 : decode cX9_undo 12 = .ok (.getfield 28, 3) := by decide +kernel
theorem dX9_undo_15 : decode cX9_undo 15 = .ok (.iconst 0, 1) := by decide +kernel
theorem dX9_undo_16 : decode cX9_undo 16 = .ok (.invokevirtual 31, 3) := by decide +kernel
theorem dX9_undo_19 : decode cX9_undo 19 = .ok (.aload_n 0, 1) := by decide +kernel
theorem dX9_undo_20 : decode cX9_undo 20 = .ok (.dup, 1) := by decide +kernel
theorem dX9_undo_21 : decode cX9_undo 21 = .ok (.getfield 28, 3) := by decide +kernel
theorem dX9_undo_24 : decode cX9_undo 24 = .ok (.iconst 1, 1) := by decide +kernel
theorem dX9_undo_25 : decode cX9_undo 25 = .ok (.isub, 1) := by decide +kernel
theorem dX9_undo_26 : decode cX9_undo 26 = .ok (.putfield 28, 3) := by decide +kernel
theorem dX9_undo_29 : decode cX9_undo 29 = .ok (.aload_n 0, 1) := by decide +kernel
theorem dX9_undo_30 : decode cX9_undo 30 = .ok (.getfield 28, 3) := by decide +kernel
theorem dX9_undo_33 : decode cX9_undo 33 = .ok (.ireturn, 1) := by decide +kernel
theorem dX9_keep_0 : decode cX9_keep 0 = .ok (.aload_n 0, 1) := by decide +kernel
theorem dX9_keep_1 : decode cX9_keep 1 = .ok (.iconst 0, 1) := by decide +kernel
theorem dX9_keep_2 : decode cX9_keep 2 = .ok (.iconst 5, 1) := by decide +kernel
theorem dX9_keep_3 : decode cX9_keep 3 = .ok (.invokevirtual 31, 3) := by decide +kernel
theorem dX9_keep_6 : decode cX9_keep 6 = .ok (.aload_n 0, 1) := by decide +kernel
theorem dX9_keep_7 : decode cX9_keep 7 = .ok (.iconst 1, 1) := by decide +kernel
theorem dX9_keep_8 : decode cX9_keep 8 = .ok (.putfield 140, 3) := by decide +kernel
theorem dX9_keep_11 : decode cX9_keep 11 = .ok (.aload_n 0, 1) := by decide +kernel
theorem dX9_keep_12 : decode cX9_keep 12 = .ok (.iconst 0, 1) := by decide +kernel
theorem dX9_keep_13 : decode cX9_keep 13 = .ok (.invokevirtual 70, 3) := by decide +kernel
theorem dX9_keep_16 : decode cX9_keep 16 = .ok (.ireturn, 1) := by decide +kernel
theorem dX9_restore_0 : decode cX9_restore 0 = .ok (.aload_n 0, 1) := by decide +kernel
theorem dX9_restore_1 : decode cX9_restore 1 = .ok (.getfield 140, 3) := by decide +kernel
theorem dX9_restore_4 : decode cX9_restore 4 = .ok (.ifCond .ne 6, 3) := by decide +kernel
theorem dX9_restore_7 : decode cX9_restore 7 = .ok (.bipush (-5), 2) := by decide +kernel
theorem dX9_restore_9 : decode cX9_restore 9 = .ok (.ireturn, 1) := by decide +kernel
theorem dX9_restore_10 : decode cX9_restore 10 = .ok (.aload_n 0, 1) := by decide +kernel
theorem dX9_restore_11 : decode cX9_restore 11 = .ok (.invokevirtual 84, 3) := by decide +kernel
theorem dX9_restore_14 : decode cX9_restore 14 = .ok (.aload_n 0, 1) := by decide +kernel
theorem dX9_restore_15 : decode cX9_restore 15 = .ok (.iconst 5, 1) := by decide +kernel
theorem dX9_restore_16 : decode cX9_restore 16 = .ok (.iconst 0, 1) := by decide +kernel
theorem dX9_restore_17 : decode cX9_restore 17 = .ok (.invokevirtual 31, 3) := by decide +kernel
theorem dX9_restore_20 : decode cX9_restore 20 = .ok (.aload_n 0, 1) := by decide +kernel
theorem dX9_restore_21 : decode cX9_restore 21 = .ok (.iconst 0, 1) := by decide +kernel
theorem dX9_restore_22 : decode cX9_restore 22 = .ok (.invokevirtual 70, 3) := by decide +kernel
theorem dX9_restore_25 : decode cX9_restore 25 = .ok (.ireturn, 1) := by decide +kernel
theorem dX9_awarded_0 : decode cX9_awarded 0 = .ok (.iconst 0, 1) := by decide +kernel
theorem dX9_awarded_1 : decode cX9_awarded 1 = .ok (.istore_n 2, 1) := by decide +kernel
theorem dX9_awarded_2 : decode cX9_awarded 2 = .ok (.iconst 0, 1) := by decide +kernel
theorem dX9_awarded_3 : decode cX9_awarded 3 = .ok (.istore_n 3, 1) := by decide +kernel
theorem dX9_awarded_4 : decode cX9_awarded 4 = .ok (.iload_n 3, 1) := by decide +kernel
theorem dX9_awarded_5 : decode cX9_awarded 5 = .ok (.bipush 48, 2) := by decide +kernel
theorem dX9_awarded_7 : decode cX9_awarded 7 = .ok (.if_icmp .ge 70, 3) := by decide +kernel
theorem dX9_awarded_10 : decode cX9_awarded 10 = .ok (.aload_n 0, 1) := by decide +kernel
theorem dX9_awarded_11 : decode cX9_awarded 11 = .ok (.getfield 7, 3) := by decide +kernel
theorem dX9_awarded_14 : decode cX9_awarded 14 = .ok (.bipush 51, 2) := by decide +kernel
theorem dX9_awarded_16 : decode cX9_awarded 16 = .ok (.iload_n 3, 1) := by decide +kernel
theorem dX9_awarded_17 : decode cX9_awarded 17 = .ok (.iadd, 1) := by decide +kernel
theorem dX9_awarded_18 : decode cX9_awarded 18 = .ok (.iaload, 1) := by decide +kernel
theorem dX9_awarded_19 : decode cX9_awarded 19 = .ok (.ifCond .lt 19, 3) := by decide +kernel
theorem dX9_awarded_22 : decode cX9_awarded 22 = .ok (.aload_n 0, 1) := by decide +kernel
theorem dX9_awarded_23 : decode cX9_awarded 23 = .ok (.iconst 0, 1) := by decide +kernel
theorem dX9_awarded_24 : decode cX9_awarded 24 = .ok (.iload_n 3, 1) := by decide +kernel
theorem dX9_awarded_25 : decode cX9_awarded 25 = .ok (.bipush 16, 2) := by decide +kernel
theorem dX9_awarded_27 : decode cX9_awarded 27 = .ok (.irem, 1) := by decide +kernel
theorem dX9_awarded_28 : decode cX9_awarded 28 = .ok (.invokevirtual 57, 3) := by decide +kernel
theorem dX9_awarded_31 : decode cX9_awarded 31 = .ok (.ifCond .ne 7, 3) := by decide +kernel
theorem dX9_awarded_34 : decode cX9_awarded 34 = .ok (.iconst 1, 1) := by decide +kernel
theorem dX9_awarded_35 : decode cX9_awarded 35 = .ok (.goto 4, 3) := by decide +kernel
theorem dX9_awarded_38 : decode cX9_awarded 38 = .ok (.iconst 0, 1) := by decide +kernel
theorem dX9_awarded_39 : decode cX9_awarded 39 = .ok (.istore 4, 2) := by decide +kernel
theorem dX9_awarded_41 : decode cX9_awarded 41 = .ok (.iload_n 2, 1) := by decide +kernel
theorem dX9_awarded_42 : decode cX9_awarded 42 = .ok (.iload 4, 2) := by decide +kernel
theorem dX9_awarded_44 : decode cX9_awarded 44 = .ok (.ifCond .eq 24, 3) := by decide +kernel
theorem dX9_awarded_47 : decode cX9_awarded 47 = .ok (.iload_n 1, 1) := by decide +kernel
theorem dX9_awarded_48 : decode cX9_awarded 48 = .ok (.ifCond .lt 16, 3) := by decide +kernel
theorem dX9_awarded_51 : decode cX9_awarded 51 = .ok (.aload_n 0, 1) := by decide +kernel
theorem dX9_awarded_52 : decode cX9_awarded 52 = .ok (.getfield 7, 3) := by decide +kernel
theorem dX9_awarded_55 : decode cX9_awarded 55 = .ok (.bipush 51, 2) := by decide +kernel
theorem dX9_awarded_57 : decode cX9_awarded 57 = .ok (.iload_n 3, 1) := by decide +kernel
theorem dX9_awarded_58 : decode cX9_awarded 58 = .ok (.iadd, 1) := by decide +kernel
theorem dX9_awarded_59 : decode cX9_awarded 59 = .ok (.iaload, 1) := by decide +kernel
theorem dX9_awarded_60 : decode cX9_awarded 60 = .ok (.iload_n 1, 1) := by decide +kernel
theorem dX9_awarded_61 : decode cX9_awarded 61 = .ok (.if_icmp .ne 7, 3) := by decide +kernel
theorem dX9_awarded_64 : decode cX9_awarded 64 = .ok (.iconst 1, 1) := by decide +kernel
theorem dX9_awarded_65 : decode cX9_awarded 65 = .ok (.goto 4, 3) := by decide +kernel
theorem dX9_awarded_68 : decode cX9_awarded 68 = .ok (.iconst 0, 1) := by decide +kernel
theorem dX9_awarded_69 : decode cX9_awarded 69 = .ok (.iadd, 1) := by decide +kernel
theorem dX9_awarded_70 : decode cX9_awarded 70 = .ok (.istore_n 2, 1) := by decide +kernel
theorem dX9_awarded_71 : decode cX9_awarded 71 = .ok (.iinc 3 1, 3) := by decide +kernel
theorem dX9_awarded_74 : decode cX9_awarded 74 = .ok (.goto (-70), 3) := by decide +kernel
theorem dX9_awarded_77 : decode cX9_awarded 77 = .ok (.iload_n 2, 1) := by decide +kernel
theorem dX9_awarded_78 : decode cX9_awarded 78 = .ok (.ireturn, 1) := by decide +kernel
theorem dX9_firm_0 : decode cX9_firm 0 = .ok (.iload_n 1, 1) := by decide +kernel
theorem dX9_firm_1 : decode cX9_firm 1 = .ok (.iconst 0, 1) := by decide +kernel
theorem dX9_firm_2 : decode cX9_firm 2 = .ok (.iconst 5, 1) := by decide +kernel
theorem dX9_firm_3 : decode cX9_firm 3 = .ok (.invokestatic 53, 3) := by decide +kernel
theorem dX9_firm_6 : decode cX9_firm 6 = .ok (.ifCond .ne 5, 3) := by decide +kernel
theorem dX9_firm_9 : decode cX9_firm 9 = .ok (.iconst (-1), 1) := by decide +kernel
theorem dX9_firm_10 : decode cX9_firm 10 = .ok (.ireturn, 1) := by decide +kernel
theorem dX9_firm_11 : decode cX9_firm 11 = .ok (.iload_n 2, 1) := by decide +kernel
theorem dX9_firm_12 : decode cX9_firm 12 = .ok (.tableswitch 103 0 6 #[44, 53, 60, 67, 73, 83, 93], 44) := by decide +kernel
theorem dX9_firm_56 : decode cX9_firm 56 = .ok (.aload_n 0, 1) := by decide +kernel
theorem dX9_firm_57 : decode cX9_firm 57 = .ok (.getfield 7, 3) := by decide +kernel
theorem dX9_firm_60 : decode cX9_firm 60 = .ok (.iconst 2, 1) := by decide +kernel
theorem dX9_firm_61 : decode cX9_firm 61 = .ok (.iload_n 1, 1) := by decide +kernel
theorem dX9_firm_62 : decode cX9_firm 62 = .ok (.iadd, 1) := by decide +kernel
theorem dX9_firm_63 : decode cX9_firm 63 = .ok (.iaload, 1) := by decide +kernel
theorem dX9_firm_64 : decode cX9_firm 64 = .ok (.ireturn, 1) := by decide +kernel
theorem dX9_firm_65 : decode cX9_firm 65 = .ok (.aload_n 0, 1) := by decide +kernel
theorem dX9_firm_66 : decode cX9_firm 66 = .ok (.iconst 0, 1) := by decide +kernel
theorem dX9_firm_67 : decode cX9_firm 67 = .ok (.iload_n 1, 1) := by decide +kernel
theorem dX9_firm_68 : decode cX9_firm 68 = .ok (.invokevirtual 67, 3) := by decide +kernel
theorem dX9_firm_71 : decode cX9_firm 71 = .ok (.ireturn, 1) := by decide +kernel
theorem dX9_firm_72 : decode cX9_firm 72 = .ok (.aload_n 0, 1) := by decide +kernel
theorem dX9_firm_73 : decode cX9_firm 73 = .ok (.iconst 0, 1) := by decide +kernel
theorem dX9_firm_74 : decode cX9_firm 74 = .ok (.iload_n 1, 1) := by decide +kernel
theorem dX9_firm_75 : decode cX9_firm 75 = .ok (.invokevirtual 143, 3) := by decide +kernel
theorem dX9_firm_78 : decode cX9_firm 78 = .ok (.ireturn, 1) := by decide +kernel
theorem dX9_firm_79 : decode cX9_firm 79 = .ok (.aload_n 0, 1) := by decide +kernel
theorem dX9_firm_80 : decode cX9_firm 80 = .ok (.iload_n 1, 1) := by decide +kernel
theorem dX9_firm_81 : decode cX9_firm 81 = .ok (.invokevirtual 146, 3) := by decide +kernel
theorem dX9_firm_84 : decode cX9_firm 84 = .ok (.ireturn, 1) := by decide +kernel
theorem dX9_firm_85 : decode cX9_firm 85 = .ok (.aload_n 0, 1) := by decide +kernel
theorem dX9_firm_86 : decode cX9_firm 86 = .ok (.getfield 7, 3) := by decide +kernel
theorem dX9_firm_89 : decode cX9_firm 89 = .ok (.bipush 8, 2) := by decide +kernel
theorem dX9_firm_91 : decode cX9_firm 91 = .ok (.iload_n 1, 1) := by decide +kernel
theorem dX9_firm_92 : decode cX9_firm 92 = .ok (.iadd, 1) := by decide +kernel
theorem dX9_firm_93 : decode cX9_firm 93 = .ok (.iaload, 1) := by decide +kernel
theorem dX9_firm_94 : decode cX9_firm 94 = .ok (.ireturn, 1) := by decide +kernel
theorem dX9_firm_95 : decode cX9_firm 95 = .ok (.aload_n 0, 1) := by decide +kernel
theorem dX9_firm_96 : decode cX9_firm 96 = .ok (.getfield 7, 3) := by decide +kernel
theorem dX9_firm_99 : decode cX9_firm 99 = .ok (.bipush 14, 2) := by decide +kernel
theorem dX9_firm_101 : decode cX9_firm 101 = .ok (.iload_n 1, 1) := by decide +kernel
theorem dX9_firm_102 : decode cX9_firm 102 = .ok (.iadd, 1) := by decide +kernel
theorem dX9_firm_103 : decode cX9_firm 103 = .ok (.iaload, 1) := by decide +kernel
theorem dX9_firm_104 : decode cX9_firm 104 = .ok (.ireturn, 1) := by decide +kernel
theorem dX9_firm_105 : decode cX9_firm 105 = .ok (.aload_n 0, 1) := by decide +kernel
theorem dX9_firm_106 : decode cX9_firm 106 = .ok (.getfield 7, 3) := by decide +kernel
theorem dX9_firm_109 : decode cX9_firm 109 = .ok (.bipush 20, 2) := by decide +kernel
theorem dX9_firm_111 : decode cX9_firm 111 = .ok (.iload_n 1, 1) := by decide +kernel
theorem dX9_firm_112 : decode cX9_firm 112 = .ok (.iadd, 1) := by decide +kernel
theorem dX9_firm_113 : decode cX9_firm 113 = .ok (.iaload, 1) := by decide +kernel
theorem dX9_firm_114 : decode cX9_firm 114 = .ok (.ireturn, 1) := by decide +kernel
theorem dX9_firm_115 : decode cX9_firm 115 = .ok (.bipush (-2), 2) := by decide +kernel
theorem dX9_firm_117 : decode cX9_firm 117 = .ok (.ireturn, 1) := by decide +kernel
theorem dX9_highest_0 : decode cX9_highest 0 = .ok (.iconst 0, 1) := by decide +kernel
theorem dX9_highest_1 : decode cX9_highest 1 = .ok (.istore_n 2, 1) := by decide +kernel
theorem dX9_highest_2 : decode cX9_highest 2 = .ok (.iconst 0, 1) := by decide +kernel
theorem dX9_highest_3 : decode cX9_highest 3 = .ok (.istore_n 3, 1) := by decide +kernel
theorem dX9_highest_4 : decode cX9_highest 4 = .ok (.iload_n 3, 1) := by decide +kernel
theorem dX9_highest_5 : decode cX9_highest 5 = .ok (.bipush 6, 2) := by decide +kernel
theorem dX9_highest_7 : decode cX9_highest 7 = .ok (.if_icmp .ge 48, 3) := by decide +kernel
theorem dX9_highest_10 : decode cX9_highest 10 = .ok (.aload_n 0, 1) := by decide +kernel
theorem dX9_highest_11 : decode cX9_highest 11 = .ok (.getfield 7, 3) := by decide +kernel
theorem dX9_highest_14 : decode cX9_highest 14 = .ok (.sipush 531, 3) := by decide +kernel
theorem dX9_highest_17 : decode cX9_highest 17 = .ok (.bipush 6, 2) := by decide +kernel
theorem dX9_highest_19 : decode cX9_highest 19 = .ok (.iload_n 1, 1) := by decide +kernel
theorem dX9_highest_20 : decode cX9_highest 20 = .ok (.imul, 1) := by decide +kernel
theorem dX9_highest_21 : decode cX9_highest 21 = .ok (.iadd, 1) := by decide +kernel
theorem dX9_highest_22 : decode cX9_highest 22 = .ok (.iload_n 3, 1) := by decide +kernel
theorem dX9_highest_23 : decode cX9_highest 23 = .ok (.iadd, 1) := by decide +kernel
theorem dX9_highest_24 : decode cX9_highest 24 = .ok (.iaload, 1) := by decide +kernel
theorem dX9_highest_25 : decode cX9_highest 25 = .ok (.iload_n 2, 1) := by decide +kernel
theorem dX9_highest_26 : decode cX9_highest 26 = .ok (.if_icmp .le 21, 3) := by decide +kernel
theorem dX9_highest_29 : decode cX9_highest 29 = .ok (.aload_n 0, 1) := by decide +kernel
theorem dX9_highest_30 : decode cX9_highest 30 = .ok (.getfield 7, 3) := by decide +kernel
theorem dX9_highest_33 : decode cX9_highest 33 = .ok (.sipush 531, 3) := by decide +kernel
theorem dX9_highest_36 : decode cX9_highest 36 = .ok (.bipush 6, 2) := by decide +kernel
theorem dX9_highest_38 : decode cX9_highest 38 = .ok (.iload_n 1, 1) := by decide +kernel
theorem dX9_highest_39 : decode cX9_highest 39 = .ok (.imul, 1) := by decide +kernel
theorem dX9_highest_40 : decode cX9_highest 40 = .ok (.iadd, 1) := by decide +kernel
theorem dX9_highest_41 : decode cX9_highest 41 = .ok (.iload_n 3, 1) := by decide +kernel
theorem dX9_highest_42 : decode cX9_highest 42 = .ok (.iadd, 1) := by decide +kernel
theorem dX9_highest_43 : decode cX9_highest 43 = .ok (.iaload, 1) := by decide +kernel
theorem dX9_highest_44 : decode cX9_highest 44 = .ok (.goto 4, 3) := by decide +kernel
theorem dX9_highest_47 : decode cX9_highest 47 = .ok (.iload_n 2, 1) := by decide +kernel
theorem dX9_highest_48 : decode cX9_highest 48 = .ok (.istore_n 2, 1) := by decide +kernel
theorem dX9_highest_49 : decode cX9_highest 49 = .ok (.iinc 3 1, 3) := by decide +kernel
theorem dX9_highest_52 : decode cX9_highest 52 = .ok (.goto (-48), 3) := by decide +kernel
theorem dX9_highest_55 : decode cX9_highest 55 = .ok (.iload_n 2, 1) := by decide +kernel
theorem dX9_highest_56 : decode cX9_highest 56 = .ok (.ireturn, 1) := by decide +kernel
theorem dX9_slot_0 : decode cX9_slot 0 = .ok (.iload_n 1, 1) := by decide +kernel
theorem dX9_slot_1 : decode cX9_slot 1 = .ok (.iload_n 2, 1) := by decide +kernel
theorem dX9_slot_2 : decode cX9_slot 2 = .ok (.invokestatic 96, 3) := by decide +kernel
theorem dX9_slot_5 : decode cX9_slot 5 = .ok (.ifCond .ne 5, 3) := by decide +kernel
theorem dX9_slot_8 : decode cX9_slot 8 = .ok (.iconst (-1), 1) := by decide +kernel
theorem dX9_slot_9 : decode cX9_slot 9 = .ok (.ireturn, 1) := by decide +kernel
theorem dX9_slot_10 : decode cX9_slot 10 = .ok (.iload_n 1, 1) := by decide +kernel
theorem dX9_slot_11 : decode cX9_slot 11 = .ok (.iload_n 2, 1) := by decide +kernel
theorem dX9_slot_12 : decode cX9_slot 12 = .ok (.invokestatic 64, 3) := by decide +kernel
theorem dX9_slot_15 : decode cX9_slot 15 = .ok (.istore 4, 2) := by decide +kernel
theorem dX9_slot_17 : decode cX9_slot 17 = .ok (.iload_n 3, 1) := by decide +kernel
theorem dX9_slot_18 : decode cX9_slot 18 = .ok (.tableswitch 155 0 6 #[42, 71, 82, 94, 102, 109, 124], 42) := by decide +kernel
theorem dX9_slot_60 : decode cX9_slot 60 = .ok (.aload_n 0, 1) := by decide +kernel
theorem dX9_slot_61 : decode cX9_slot 61 = .ok (.getfield 7, 3) := by decide +kernel
theorem dX9_slot_64 : decode cX9_slot 64 = .ok (.bipush 51, 2) := by decide +kernel
theorem dX9_slot_66 : decode cX9_slot 66 = .ok (.iload 4, 2) := by decide +kernel
theorem dX9_slot_68 : decode cX9_slot 68 = .ok (.iadd, 1) := by decide +kernel
theorem dX9_slot_69 : decode cX9_slot 69 = .ok (.iaload, 1) := by decide +kernel
theorem dX9_slot_70 : decode cX9_slot 70 = .ok (.ifCond .ge 8, 3) := by decide +kernel
theorem dX9_slot_73 : decode cX9_slot 73 = .ok (.bipush (-5), 2) := by decide +kernel
theorem dX9_slot_75 : decode cX9_slot 75 = .ok (.goto 13, 3) := by decide +kernel
theorem dX9_slot_78 : decode cX9_slot 78 = .ok (.aload_n 0, 1) := by decide +kernel
theorem dX9_slot_79 : decode cX9_slot 79 = .ok (.getfield 7, 3) := by decide +kernel
theorem dX9_slot_82 : decode cX9_slot 82 = .ok (.bipush 51, 2) := by decide +kernel
theorem dX9_slot_84 : decode cX9_slot 84 = .ok (.iload 4, 2) := by decide +kernel
theorem dX9_slot_86 : decode cX9_slot 86 = .ok (.iadd, 1) := by decide +kernel
theorem dX9_slot_87 : decode cX9_slot 87 = .ok (.iaload, 1) := by decide +kernel
theorem dX9_slot_88 : decode cX9_slot 88 = .ok (.ireturn, 1) := by decide +kernel
theorem dX9_slot_89 : decode cX9_slot 89 = .ok (.aload_n 0, 1) := by decide +kernel
theorem dX9_slot_90 : decode cX9_slot 90 = .ok (.getfield 7, 3) := by decide +kernel
theorem dX9_slot_93 : decode cX9_slot 93 = .ok (.bipush 99, 2) := by decide +kernel
theorem dX9_slot_95 : decode cX9_slot 95 = .ok (.iload 4, 2) := by decide +kernel
theorem dX9_slot_97 : decode cX9_slot 97 = .ok (.iadd, 1) := by decide +kernel
theorem dX9_slot_98 : decode cX9_slot 98 = .ok (.iaload, 1) := by decide +kernel
theorem dX9_slot_99 : decode cX9_slot 99 = .ok (.ireturn, 1) := by decide +kernel
theorem dX9_slot_100 : decode cX9_slot 100 = .ok (.aload_n 0, 1) := by decide +kernel
theorem dX9_slot_101 : decode cX9_slot 101 = .ok (.getfield 7, 3) := by decide +kernel
theorem dX9_slot_104 : decode cX9_slot 104 = .ok (.sipush 147, 3) := by decide +kernel
theorem dX9_slot_107 : decode cX9_slot 107 = .ok (.iload 4, 2) := by decide +kernel
theorem dX9_slot_109 : decode cX9_slot 109 = .ok (.iadd, 1) := by decide +kernel
theorem dX9_slot_110 : decode cX9_slot 110 = .ok (.iaload, 1) := by decide +kernel
theorem dX9_slot_111 : decode cX9_slot 111 = .ok (.ireturn, 1) := by decide +kernel
theorem dX9_slot_112 : decode cX9_slot 112 = .ok (.aload_n 0, 1) := by decide +kernel
theorem dX9_slot_113 : decode cX9_slot 113 = .ok (.iconst 0, 1) := by decide +kernel
theorem dX9_slot_114 : decode cX9_slot 114 = .ok (.iload 4, 2) := by decide +kernel
theorem dX9_slot_116 : decode cX9_slot 116 = .ok (.invokevirtual 38, 3) := by decide +kernel
theorem dX9_slot_119 : decode cX9_slot 119 = .ok (.ireturn, 1) := by decide +kernel
theorem dX9_slot_120 : decode cX9_slot 120 = .ok (.aload_n 0, 1) := by decide +kernel
theorem dX9_slot_121 : decode cX9_slot 121 = .ok (.iload 4, 2) := by decide +kernel
theorem dX9_slot_123 : decode cX9_slot 123 = .ok (.invokevirtual 149, 3) := by decide +kernel
theorem dX9_slot_126 : decode cX9_slot 126 = .ok (.ireturn, 1) := by decide +kernel
theorem dX9_slot_127 : decode cX9_slot 127 = .ok (.aload_n 0, 1) := by decide +kernel
theorem dX9_slot_128 : decode cX9_slot 128 = .ok (.iconst 0, 1) := by decide +kernel
theorem dX9_slot_129 : decode cX9_slot 129 = .ok (.iload_n 2, 1) := by decide +kernel
theorem dX9_slot_130 : decode cX9_slot 130 = .ok (.invokevirtual 57, 3) := by decide +kernel
theorem dX9_slot_133 : decode cX9_slot 133 = .ok (.ifCond .eq 7, 3) := by decide +kernel
theorem dX9_slot_136 : decode cX9_slot 136 = .ok (.iconst 1, 1) := by decide +kernel
theorem dX9_slot_137 : decode cX9_slot 137 = .ok (.goto 4, 3) := by decide +kernel
theorem dX9_slot_140 : decode cX9_slot 140 = .ok (.iconst 0, 1) := by decide +kernel
theorem dX9_slot_141 : decode cX9_slot 141 = .ok (.ireturn, 1) := by decide +kernel
theorem dX9_slot_142 : decode cX9_slot 142 = .ok (.aload_n 0, 1) := by decide +kernel
theorem dX9_slot_143 : decode cX9_slot 143 = .ok (.getfield 7, 3) := by decide +kernel
theorem dX9_slot_146 : decode cX9_slot 146 = .ok (.sipush 195, 3) := by decide +kernel
theorem dX9_slot_149 : decode cX9_slot 149 = .ok (.iload 4, 2) := by decide +kernel
theorem dX9_slot_151 : decode cX9_slot 151 = .ok (.iadd, 1) := by decide +kernel
theorem dX9_slot_152 : decode cX9_slot 152 = .ok (.iaload, 1) := by decide +kernel
theorem dX9_slot_153 : decode cX9_slot 153 = .ok (.ifCond .ge 8, 3) := by decide +kernel
theorem dX9_slot_156 : decode cX9_slot 156 = .ok (.bipush (-5), 2) := by decide +kernel
theorem dX9_slot_158 : decode cX9_slot 158 = .ok (.goto 14, 3) := by decide +kernel
theorem dX9_slot_161 : decode cX9_slot 161 = .ok (.aload_n 0, 1) := by decide +kernel
theorem dX9_slot_162 : decode cX9_slot 162 = .ok (.getfield 7, 3) := by decide +kernel
theorem dX9_slot_165 : decode cX9_slot 165 = .ok (.sipush 195, 3) := by decide +kernel
theorem dX9_slot_168 : decode cX9_slot 168 = .ok (.iload 4, 2) := by decide +kernel
theorem dX9_slot_170 : decode cX9_slot 170 = .ok (.iadd, 1) := by decide +kernel
theorem dX9_slot_171 : decode cX9_slot 171 = .ok (.iaload, 1) := by decide +kernel
theorem dX9_slot_172 : decode cX9_slot 172 = .ok (.ireturn, 1) := by decide +kernel
theorem dX9_slot_173 : decode cX9_slot 173 = .ok (.bipush (-2), 2) := by decide +kernel
theorem dX9_slot_175 : decode cX9_slot 175 = .ok (.ireturn, 1) := by decide +kernel
theorem dX9_wouldCost_0 : decode cX9_wouldCost 0 = .ok (.aload_n 0, 1) := by decide +kernel
theorem dX9_wouldCost_1 : decode cX9_wouldCost 1 = .ok (.iconst 0, 1) := by decide +kernel
theorem dX9_wouldCost_2 : decode cX9_wouldCost 2 = .ok (.bipush 6, 2) := by decide +kernel
theorem dX9_wouldCost_4 : decode cX9_wouldCost 4 = .ok (.invokevirtual 31, 3) := by decide +kernel
theorem dX9_wouldCost_7 : decode cX9_wouldCost 7 = .ok (.aload_n 0, 1) := by decide +kernel
theorem dX9_wouldCost_8 : decode cX9_wouldCost 8 = .ok (.bipush 6, 2) := by decide +kernel
theorem dX9_wouldCost_10 : decode cX9_wouldCost 10 = .ok (.iload_n 1, 1) := by decide +kernel
theorem dX9_wouldCost_11 : decode cX9_wouldCost 11 = .ok (.iload_n 2, 1) := by decide +kernel
theorem dX9_wouldCost_12 : decode cX9_wouldCost 12 = .ok (.iload_n 3, 1) := by decide +kernel
theorem dX9_wouldCost_13 : decode cX9_wouldCost 13 = .ok (.iload 4, 2) := by decide +kernel
theorem dX9_wouldCost_15 : decode cX9_wouldCost 15 = .ok (.iload 5, 2) := by decide +kernel
theorem dX9_wouldCost_17 : decode cX9_wouldCost 17 = .ok (.invokevirtual 93, 3) := by decide +kernel
theorem dX9_wouldCost_20 : decode cX9_wouldCost 20 = .ok (.istore 6, 2) := by decide +kernel
theorem dX9_wouldCost_22 : decode cX9_wouldCost 22 = .ok (.iload 6, 2) := by decide +kernel
theorem dX9_wouldCost_24 : decode cX9_wouldCost 24 = .ok (.ifCond .ge 6, 3) := by decide +kernel
theorem dX9_wouldCost_27 : decode cX9_wouldCost 27 = .ok (.iload 6, 2) := by decide +kernel
theorem dX9_wouldCost_29 : decode cX9_wouldCost 29 = .ok (.ireturn, 1) := by decide +kernel
theorem dX9_wouldCost_30 : decode cX9_wouldCost 30 = .ok (.sipush 5010, 3) := by decide +kernel
theorem dX9_wouldCost_33 : decode cX9_wouldCost 33 = .ok (.istore 7, 2) := by decide +kernel
theorem dX9_wouldCost_35 : decode cX9_wouldCost 35 = .ok (.iload_n 2, 1) := by decide +kernel
theorem dX9_wouldCost_36 : decode cX9_wouldCost 36 = .ok (.iload_n 3, 1) := by decide +kernel
theorem dX9_wouldCost_37 : decode cX9_wouldCost 37 = .ok (.invokestatic 64, 3) := by decide +kernel
theorem dX9_wouldCost_40 : decode cX9_wouldCost 40 = .ok (.istore 8, 2) := by decide +kernel
theorem dX9_wouldCost_42 : decode cX9_wouldCost 42 = .ok (.aload_n 0, 1) := by decide +kernel
theorem dX9_wouldCost_43 : decode cX9_wouldCost 43 = .ok (.iload 7, 2) := by decide +kernel
theorem dX9_wouldCost_45 : decode cX9_wouldCost 45 = .ok (.iload 8, 2) := by decide +kernel
theorem dX9_wouldCost_47 : decode cX9_wouldCost 47 = .ok (.invokevirtual 77, 3) := by decide +kernel
theorem dX9_wouldCost_50 : decode cX9_wouldCost 50 = .ok (.iload_n 1, 1) := by decide +kernel
theorem dX9_wouldCost_51 : decode cX9_wouldCost 51 = .ok (.if_icmp .ne 20, 3) := by decide +kernel
theorem dX9_wouldCost_54 : decode cX9_wouldCost 54 = .ok (.aload_n 0, 1) := by decide +kernel
theorem dX9_wouldCost_55 : decode cX9_wouldCost 55 = .ok (.getfield 7, 3) := by decide +kernel
theorem dX9_wouldCost_58 : decode cX9_wouldCost 58 = .ok (.iload 7, 2) := by decide +kernel
theorem dX9_wouldCost_60 : decode cX9_wouldCost 60 = .ok (.sipush 147, 3) := by decide +kernel
theorem dX9_wouldCost_63 : decode cX9_wouldCost 63 = .ok (.iadd, 1) := by decide +kernel
theorem dX9_wouldCost_64 : decode cX9_wouldCost 64 = .ok (.iload 8, 2) := by decide +kernel
theorem dX9_wouldCost_66 : decode cX9_wouldCost 66 = .ok (.iadd, 1) := by decide +kernel
theorem dX9_wouldCost_67 : decode cX9_wouldCost 67 = .ok (.iaload, 1) := by decide +kernel
theorem dX9_wouldCost_68 : decode cX9_wouldCost 68 = .ok (.goto 5, 3) := by decide +kernel
theorem dX9_wouldCost_71 : decode cX9_wouldCost 71 = .ok (.bipush (-5), 2) := by decide +kernel
theorem dX9_wouldCost_73 : decode cX9_wouldCost 73 = .ok (.ireturn, 1) := by decide +kernel
theorem dX9_heaviest_0 : decode cX9_heaviest 0 = .ok (.iload_n 1, 1) := by decide +kernel
theorem dX9_heaviest_1 : decode cX9_heaviest 1 = .ok (.iload_n 2, 1) := by decide +kernel
theorem dX9_heaviest_2 : decode cX9_heaviest 2 = .ok (.invokestatic 96, 3) := by decide +kernel
theorem dX9_heaviest_5 : decode cX9_heaviest 5 = .ok (.ifCond .ne 5, 3) := by decide +kernel
theorem dX9_heaviest_8 : decode cX9_heaviest 8 = .ok (.iconst (-1), 1) := by decide +kernel
theorem dX9_heaviest_9 : decode cX9_heaviest 9 = .ok (.ireturn, 1) := by decide +kernel
theorem dX9_heaviest_10 : decode cX9_heaviest 10 = .ok (.bipush 70, 2) := by decide +kernel
theorem dX9_heaviest_12 : decode cX9_heaviest 12 = .ok (.aload_n 0, 1) := by decide +kernel
theorem dX9_heaviest_13 : decode cX9_heaviest 13 = .ok (.getfield 7, 3) := by decide +kernel
theorem dX9_heaviest_16 : decode cX9_heaviest 16 = .ok (.bipush 35, 2) := by decide +kernel
theorem dX9_heaviest_18 : decode cX9_heaviest 18 = .ok (.iload_n 2, 1) := by decide +kernel
theorem dX9_heaviest_19 : decode cX9_heaviest 19 = .ok (.iadd, 1) := by decide +kernel
theorem dX9_heaviest_20 : decode cX9_heaviest 20 = .ok (.iaload, 1) := by decide +kernel
theorem dX9_heaviest_21 : decode cX9_heaviest 21 = .ok (.isub, 1) := by decide +kernel
theorem dX9_heaviest_22 : decode cX9_heaviest 22 = .ok (.istore_n 3, 1) := by decide +kernel
theorem dX9_heaviest_23 : decode cX9_heaviest 23 = .ok (.iload_n 3, 1) := by decide +kernel
theorem dX9_heaviest_24 : decode cX9_heaviest 24 = .ok (.ifCond .ge 7, 3) := by decide +kernel
theorem dX9_heaviest_27 : decode cX9_heaviest 27 = .ok (.iconst 0, 1) := by decide +kernel
theorem dX9_heaviest_28 : decode cX9_heaviest 28 = .ok (.goto 4, 3) := by decide +kernel
theorem dX9_heaviest_31 : decode cX9_heaviest 31 = .ok (.iload_n 3, 1) := by decide +kernel
theorem dX9_heaviest_32 : decode cX9_heaviest 32 = .ok (.istore_n 3, 1) := by decide +kernel
theorem dX9_heaviest_33 : decode cX9_heaviest 33 = .ok (.iload_n 3, 1) := by decide +kernel
theorem dX9_heaviest_34 : decode cX9_heaviest 34 = .ok (.iload_n 1, 1) := by decide +kernel
theorem dX9_heaviest_35 : decode cX9_heaviest 35 = .ok (.invokestatic 60, 3) := by decide +kernel
theorem dX9_heaviest_38 : decode cX9_heaviest 38 = .ok (.if_icmp .ge 7, 3) := by decide +kernel
theorem dX9_heaviest_41 : decode cX9_heaviest 41 = .ok (.iload_n 3, 1) := by decide +kernel
theorem dX9_heaviest_42 : decode cX9_heaviest 42 = .ok (.goto 7, 3) := by decide +kernel
theorem dX9_heaviest_45 : decode cX9_heaviest 45 = .ok (.iload_n 1, 1) := by decide +kernel
theorem dX9_heaviest_46 : decode cX9_heaviest 46 = .ok (.invokestatic 60, 3) := by decide +kernel
theorem dX9_heaviest_49 : decode cX9_heaviest 49 = .ok (.ireturn, 1) := by decide +kernel
theorem dX9_wind_0 : decode cX9_wind 0 = .ok (.iload_n 1, 1) := by decide +kernel
theorem dX9_wind_1 : decode cX9_wind 1 = .ok (.iconst 0, 1) := by decide +kernel
theorem dX9_wind_2 : decode cX9_wind 2 = .ok (.bipush 15, 2) := by decide +kernel
theorem dX9_wind_4 : decode cX9_wind 4 = .ok (.invokestatic 53, 3) := by decide +kernel
theorem dX9_wind_7 : decode cX9_wind 7 = .ok (.ifCond .ne 7, 3) := by decide +kernel
theorem dX9_wind_10 : decode cX9_wind 10 = .ok (.iconst (-1), 1) := by decide +kernel
theorem dX9_wind_11 : decode cX9_wind 11 = .ok (.goto 34, 3) := by decide +kernel
theorem dX9_wind_14 : decode cX9_wind 14 = .ok (.aload_n 0, 1) := by decide +kernel
theorem dX9_wind_15 : decode cX9_wind 15 = .ok (.iconst 0, 1) := by decide +kernel
theorem dX9_wind_16 : decode cX9_wind 16 = .ok (.iload_n 1, 1) := by decide +kernel
theorem dX9_wind_17 : decode cX9_wind 17 = .ok (.invokevirtual 57, 3) := by decide +kernel
theorem dX9_wind_20 : decode cX9_wind 20 = .ok (.ifCond .eq 16, 3) := by decide +kernel
theorem dX9_wind_23 : decode cX9_wind 23 = .ok (.aload_n 0, 1) := by decide +kernel
theorem dX9_wind_24 : decode cX9_wind 24 = .ok (.getfield 7, 3) := by decide +kernel
theorem dX9_wind_27 : decode cX9_wind 27 = .ok (.sipush 819, 3) := by decide +kernel
theorem dX9_wind_30 : decode cX9_wind 30 = .ok (.iload_n 1, 1) := by decide +kernel
theorem dX9_wind_31 : decode cX9_wind 31 = .ok (.iadd, 1) := by decide +kernel
theorem dX9_wind_32 : decode cX9_wind 32 = .ok (.iaload, 1) := by decide +kernel
theorem dX9_wind_33 : decode cX9_wind 33 = .ok (.goto 12, 3) := by decide +kernel
theorem dX9_wind_36 : decode cX9_wind 36 = .ok (.aload_n 0, 1) := by decide +kernel
theorem dX9_wind_37 : decode cX9_wind 37 = .ok (.getfield 7, 3) := by decide +kernel
theorem dX9_wind_40 : decode cX9_wind 40 = .ok (.bipush 35, 2) := by decide +kernel
theorem dX9_wind_42 : decode cX9_wind 42 = .ok (.iload_n 1, 1) := by decide +kernel
theorem dX9_wind_43 : decode cX9_wind 43 = .ok (.iadd, 1) := by decide +kernel
theorem dX9_wind_44 : decode cX9_wind 44 = .ok (.iaload, 1) := by decide +kernel
theorem dX9_wind_45 : decode cX9_wind 45 = .ok (.ireturn, 1) := by decide +kernel
theorem dX9_cheapest_0 : decode cX9_cheapest 0 = .ok (.iload_n 1, 1) := by decide +kernel
theorem dX9_cheapest_1 : decode cX9_cheapest 1 = .ok (.iconst 0, 1) := by decide +kernel
theorem dX9_cheapest_2 : decode cX9_cheapest 2 = .ok (.iconst 2, 1) := by decide +kernel
theorem dX9_cheapest_3 : decode cX9_cheapest 3 = .ok (.invokestatic 53, 3) := by decide +kernel
theorem dX9_cheapest_6 : decode cX9_cheapest 6 = .ok (.ifCond .ne 5, 3) := by decide +kernel
theorem dX9_cheapest_9 : decode cX9_cheapest 9 = .ok (.iconst (-1), 1) := by decide +kernel
theorem dX9_cheapest_10 : decode cX9_cheapest 10 = .ok (.ireturn, 1) := by decide +kernel
theorem dX9_cheapest_11 : decode cX9_cheapest 11 = .ok (.iload_n 2, 1) := by decide +kernel
theorem dX9_cheapest_12 : decode cX9_cheapest 12 = .ok (.iconst 1, 1) := by decide +kernel
theorem dX9_cheapest_13 : decode cX9_cheapest 13 = .ok (.iload_n 1, 1) := by decide +kernel
theorem dX9_cheapest_14 : decode cX9_cheapest 14 = .ok (.invokestatic 60, 3) := by decide +kernel
theorem dX9_cheapest_17 : decode cX9_cheapest 17 = .ok (.invokestatic 53, 3) := by decide +kernel
theorem dX9_cheapest_20 : decode cX9_cheapest 20 = .ok (.ifCond .ne 6, 3) := by decide +kernel
theorem dX9_cheapest_23 : decode cX9_cheapest 23 = .ok (.bipush (-2), 2) := by decide +kernel
theorem dX9_cheapest_25 : decode cX9_cheapest 25 = .ok (.ireturn, 1) := by decide +kernel
theorem dX9_cheapest_26 : decode cX9_cheapest 26 = .ok (.bipush (-5), 2) := by decide +kernel
theorem dX9_cheapest_28 : decode cX9_cheapest 28 = .ok (.istore_n 3, 1) := by decide +kernel
theorem dX9_cheapest_29 : decode cX9_cheapest 29 = .ok (.aload_n 0, 1) := by decide +kernel
theorem dX9_cheapest_30 : decode cX9_cheapest 30 = .ok (.getfield 7, 3) := by decide +kernel
theorem dX9_cheapest_33 : decode cX9_cheapest 33 = .ok (.iconst 1, 1) := by decide +kernel
theorem dX9_cheapest_34 : decode cX9_cheapest 34 = .ok (.iaload, 1) := by decide +kernel
theorem dX9_cheapest_35 : decode cX9_cheapest 35 = .ok (.istore 4, 2) := by decide +kernel
theorem dX9_cheapest_37 : decode cX9_cheapest 37 = .ok (.iload 4, 2) := by decide +kernel
theorem dX9_cheapest_39 : decode cX9_cheapest 39 = .ok (.bipush 16, 2) := by decide +kernel
theorem dX9_cheapest_41 : decode cX9_cheapest 41 = .ok (.if_icmp .ge 72, 3) := by decide +kernel
theorem dX9_cheapest_44 : decode cX9_cheapest 44 = .ok (.iload_n 1, 1) := by decide +kernel
theorem dX9_cheapest_45 : decode cX9_cheapest 45 = .ok (.iload 4, 2) := by decide +kernel
theorem dX9_cheapest_47 : decode cX9_cheapest 47 = .ok (.invokestatic 64, 3) := by decide +kernel
theorem dX9_cheapest_50 : decode cX9_cheapest 50 = .ok (.istore 5, 2) := by decide +kernel
theorem dX9_cheapest_52 : decode cX9_cheapest 52 = .ok (.aload_n 0, 1) := by decide +kernel
theorem dX9_cheapest_53 : decode cX9_cheapest 53 = .ok (.getfield 7, 3) := by decide +kernel
theorem dX9_cheapest_56 : decode cX9_cheapest 56 = .ok (.bipush 51, 2) := by decide +kernel
theorem dX9_cheapest_58 : decode cX9_cheapest 58 = .ok (.iload 5, 2) := by decide +kernel
theorem dX9_cheapest_60 : decode cX9_cheapest 60 = .ok (.iadd, 1) := by decide +kernel
theorem dX9_cheapest_61 : decode cX9_cheapest 61 = .ok (.iaload, 1) := by decide +kernel
theorem dX9_cheapest_62 : decode cX9_cheapest 62 = .ok (.ifCond .ge 45, 3) := by decide +kernel
theorem dX9_cheapest_65 : decode cX9_cheapest 65 = .ok (.iload_n 2, 1) := by decide +kernel
theorem dX9_cheapest_66 : decode cX9_cheapest 66 = .ok (.aload_n 0, 1) := by decide +kernel
theorem dX9_cheapest_67 : decode cX9_cheapest 67 = .ok (.getfield 7, 3) := by decide +kernel
theorem dX9_cheapest_70 : decode cX9_cheapest 70 = .ok (.bipush 35, 2) := by decide +kernel
theorem dX9_cheapest_72 : decode cX9_cheapest 72 = .ok (.iload 4, 2) := by decide +kernel
theorem dX9_cheapest_74 : decode cX9_cheapest 74 = .ok (.iadd, 1) := by decide +kernel
theorem dX9_cheapest_75 : decode cX9_cheapest 75 = .ok (.iaload, 1) := by decide +kernel
theorem dX9_cheapest_76 : decode cX9_cheapest 76 = .ok (.invokestatic 42, 3) := by decide +kernel
theorem dX9_cheapest_79 : decode cX9_cheapest 79 = .ok (.ifCond .eq 28, 3) := by decide +kernel
theorem dX9_cheapest_82 : decode cX9_cheapest 82 = .ok (.iload_n 3, 1) := by decide +kernel
theorem dX9_cheapest_83 : decode cX9_cheapest 83 = .ok (.ifCond .lt 21, 3) := by decide +kernel
theorem dX9_cheapest_86 : decode cX9_cheapest 86 = .ok (.aload_n 0, 1) := by decide +kernel
theorem dX9_cheapest_87 : decode cX9_cheapest 87 = .ok (.iload 5, 2) := by decide +kernel
theorem dX9_cheapest_89 : decode cX9_cheapest 89 = .ok (.invokevirtual 149, 3) := by decide +kernel
theorem dX9_cheapest_92 : decode cX9_cheapest 92 = .ok (.aload_n 0, 1) := by decide +kernel
theorem dX9_cheapest_93 : decode cX9_cheapest 93 = .ok (.iload_n 1, 1) := by decide +kernel
theorem dX9_cheapest_94 : decode cX9_cheapest 94 = .ok (.iload_n 3, 1) := by decide +kernel
theorem dX9_cheapest_95 : decode cX9_cheapest 95 = .ok (.invokestatic 64, 3) := by decide +kernel
theorem dX9_cheapest_98 : decode cX9_cheapest 98 = .ok (.invokevirtual 149, 3) := by decide +kernel
theorem dX9_cheapest_101 : decode cX9_cheapest 101 = .ok (.if_icmp .ge 6, 3) := by decide +kernel
theorem dX9_cheapest_104 : decode cX9_cheapest 104 = .ok (.iload 4, 2) := by decide +kernel
theorem dX9_cheapest_106 : decode cX9_cheapest 106 = .ok (.istore_n 3, 1) := by decide +kernel
theorem dX9_cheapest_107 : decode cX9_cheapest 107 = .ok (.iinc 4 1, 3) := by decide +kernel
theorem dX9_cheapest_110 : decode cX9_cheapest 110 = .ok (.goto (-73), 3) := by decide +kernel
theorem dX9_cheapest_113 : decode cX9_cheapest 113 = .ok (.iload_n 3, 1) := by decide +kernel
theorem dX9_cheapest_114 : decode cX9_cheapest 114 = .ok (.ireturn, 1) := by decide +kernel
theorem dX9_count_0 : decode cX9_count 0 = .ok (.iconst 0, 1) := by decide +kernel
theorem dX9_count_1 : decode cX9_count 1 = .ok (.istore_n 2, 1) := by decide +kernel
theorem dX9_count_2 : decode cX9_count 2 = .ok (.iload_n 1, 1) := by decide +kernel
theorem dX9_count_3 : decode cX9_count 3 = .ok (.tableswitch 158 0 15 #[77, 77, 84, 90, 96, 96, 96, 96, 96, 96, 108, 135, 135, 135, 148, 153], 77) := by decide +kernel
theorem dX9_count_80 : decode cX9_count 80 = .ok (.aload_n 0, 1) := by decide +kernel
theorem dX9_count_81 : decode cX9_count 81 = .ok (.getfield 7, 3) := by decide +kernel
theorem dX9_count_84 : decode cX9_count 84 = .ok (.iload_n 1, 1) := by decide +kernel
theorem dX9_count_85 : decode cX9_count 85 = .ok (.iaload, 1) := by decide +kernel
theorem dX9_count_86 : decode cX9_count 86 = .ok (.ireturn, 1) := by decide +kernel
theorem dX9_count_87 : decode cX9_count 87 = .ok (.aload_n 0, 1) := by decide +kernel
theorem dX9_count_88 : decode cX9_count 88 = .ok (.iconst 0, 1) := by decide +kernel
theorem dX9_count_89 : decode cX9_count 89 = .ok (.invokevirtual 70, 3) := by decide +kernel
theorem dX9_count_92 : decode cX9_count 92 = .ok (.ireturn, 1) := by decide +kernel
theorem dX9_count_93 : decode cX9_count 93 = .ok (.aload_n 0, 1) := by decide +kernel
theorem dX9_count_94 : decode cX9_count 94 = .ok (.iconst (-1), 1) := by decide +kernel
theorem dX9_count_95 : decode cX9_count 95 = .ok (.invokevirtual 146, 3) := by decide +kernel
theorem dX9_count_98 : decode cX9_count 98 = .ok (.ireturn, 1) := by decide +kernel
theorem dX9_count_99 : decode cX9_count 99 = .ok (.aload_n 0, 1) := by decide +kernel
theorem dX9_count_100 : decode cX9_count 100 = .ok (.getfield 7, 3) := by decide +kernel
theorem dX9_count_103 : decode cX9_count 103 = .ok (.bipush 26, 2) := by decide +kernel
theorem dX9_count_105 : decode cX9_count 105 = .ok (.iload_n 1, 1) := by decide +kernel
theorem dX9_count_106 : decode cX9_count 106 = .ok (.iadd, 1) := by decide +kernel
theorem dX9_count_107 : decode cX9_count 107 = .ok (.iconst 4, 1) := by decide +kernel
theorem dX9_count_108 : decode cX9_count 108 = .ok (.isub, 1) := by decide +kernel
theorem dX9_count_109 : decode cX9_count 109 = .ok (.iaload, 1) := by decide +kernel
theorem dX9_count_110 : decode cX9_count 110 = .ok (.ireturn, 1) := by decide +kernel
theorem dX9_count_111 : decode cX9_count 111 = .ok (.iconst 0, 1) := by decide +kernel
theorem dX9_count_112 : decode cX9_count 112 = .ok (.istore_n 3, 1) := by decide +kernel
theorem dX9_count_113 : decode cX9_count 113 = .ok (.iload_n 3, 1) := by decide +kernel
theorem dX9_count_114 : decode cX9_count 114 = .ok (.bipush 6, 2) := by decide +kernel
theorem dX9_count_116 : decode cX9_count 116 = .ok (.if_icmp .ge 20, 3) := by decide +kernel
theorem dX9_count_119 : decode cX9_count 119 = .ok (.iload_n 2, 1) := by decide +kernel
theorem dX9_count_120 : decode cX9_count 120 = .ok (.aload_n 0, 1) := by decide +kernel
theorem dX9_count_121 : decode cX9_count 121 = .ok (.getfield 7, 3) := by decide +kernel
theorem dX9_count_124 : decode cX9_count 124 = .ok (.iconst 2, 1) := by decide +kernel
theorem dX9_count_125 : decode cX9_count 125 = .ok (.iload_n 3, 1) := by decide +kernel
theorem dX9_count_126 : decode cX9_count 126 = .ok (.iadd, 1) := by decide +kernel
theorem dX9_count_127 : decode cX9_count 127 = .ok (.iaload, 1) := by decide +kernel
theorem dX9_count_128 : decode cX9_count 128 = .ok (.iadd, 1) := by decide +kernel
theorem dX9_count_129 : decode cX9_count 129 = .ok (.istore_n 2, 1) := by decide +kernel
theorem dX9_count_130 : decode cX9_count 130 = .ok (.iinc 3 1, 3) := by decide +kernel
theorem dX9_count_133 : decode cX9_count 133 = .ok (.goto (-20), 3) := by decide +kernel
theorem dX9_count_136 : decode cX9_count 136 = .ok (.iload_n 2, 1) := by decide +kernel
theorem dX9_count_137 : decode cX9_count 137 = .ok (.ireturn, 1) := by decide +kernel
theorem dX9_count_138 : decode cX9_count 138 = .ok (.aload_n 0, 1) := by decide +kernel
theorem dX9_count_139 : decode cX9_count 139 = .ok (.getfield 7, 3) := by decide +kernel
theorem dX9_count_142 : decode cX9_count 142 = .ok (.bipush 32, 2) := by decide +kernel
theorem dX9_count_144 : decode cX9_count 144 = .ok (.iload_n 1, 1) := by decide +kernel
theorem dX9_count_145 : decode cX9_count 145 = .ok (.iadd, 1) := by decide +kernel
theorem dX9_count_146 : decode cX9_count 146 = .ok (.bipush 11, 2) := by decide +kernel
theorem dX9_count_148 : decode cX9_count 148 = .ok (.isub, 1) := by decide +kernel
theorem dX9_count_149 : decode cX9_count 149 = .ok (.iaload, 1) := by decide +kernel
theorem dX9_count_150 : decode cX9_count 150 = .ok (.ireturn, 1) := by decide +kernel
theorem dX9_count_151 : decode cX9_count 151 = .ok (.aload_n 0, 1) := by decide +kernel
theorem dX9_count_152 : decode cX9_count 152 = .ok (.getfield 28, 3) := by decide +kernel
theorem dX9_count_155 : decode cX9_count 155 = .ok (.ireturn, 1) := by decide +kernel
theorem dX9_count_156 : decode cX9_count 156 = .ok (.aload_n 0, 1) := by decide +kernel
theorem dX9_count_157 : decode cX9_count 157 = .ok (.getfield 112, 3) := by decide +kernel
theorem dX9_count_160 : decode cX9_count 160 = .ok (.ireturn, 1) := by decide +kernel
theorem dX9_count_161 : decode cX9_count 161 = .ok (.bipush (-2), 2) := by decide +kernel
theorem dX9_count_163 : decode cX9_count 163 = .ok (.ireturn, 1) := by decide +kernel
theorem dJ9_max_7cf53_0 : decode cJ9_max_7cf53 0 = .ok (.iload_n 0, 1) := by decide +kernel
theorem dJ9_max_7cf53_1 : decode cJ9_max_7cf53 1 = .ok (.iload_n 1, 1) := by decide +kernel
theorem dJ9_max_7cf53_2 : decode cJ9_max_7cf53 2 = .ok (.if_icmp .lt 7, 3) := by decide +kernel
theorem dJ9_max_7cf53_5 : decode cJ9_max_7cf53 5 = .ok (.iload_n 0, 1) := by decide +kernel
theorem dJ9_max_7cf53_6 : decode cJ9_max_7cf53 6 = .ok (.goto 4, 3) := by decide +kernel
theorem dJ9_max_7cf53_9 : decode cJ9_max_7cf53 9 = .ok (.iload_n 1, 1) := by decide +kernel
theorem dJ9_max_7cf53_10 : decode cJ9_max_7cf53 10 = .ok (.ireturn, 1) := by decide +kernel
theorem dJ9_min_7cf53_0 : decode cJ9_min_7cf53 0 = .ok (.iload_n 0, 1) := by decide +kernel
theorem dJ9_min_7cf53_1 : decode cJ9_min_7cf53 1 = .ok (.iload_n 1, 1) := by decide +kernel
theorem dJ9_min_7cf53_2 : decode cJ9_min_7cf53 2 = .ok (.if_icmp .gt 7, 3) := by decide +kernel
theorem dJ9_min_7cf53_5 : decode cJ9_min_7cf53 5 = .ok (.iload_n 0, 1) := by decide +kernel
theorem dJ9_min_7cf53_6 : decode cJ9_min_7cf53 6 = .ok (.goto 4, 3) := by decide +kernel
theorem dJ9_min_7cf53_9 : decode cJ9_min_7cf53 9 = .ok (.iload_n 1, 1) := by decide +kernel
theorem dJ9_min_7cf53_10 : decode cJ9_min_7cf53 10 = .ok (.ireturn, 1) := by decide +kernel
theorem dL_law_0 : decode cL_law 0 = .ok (.new 7, 3) := by decide +kernel
theorem dL_law_3 : decode cL_law 3 = .ok (.dup, 1) := by decide +kernel
theorem dL_law_4 : decode cL_law 4 = .ok (.invokespecial 9, 3) := by decide +kernel
theorem dL_law_7 : decode cL_law 7 = .ok (.astore_n 1, 1) := by decide +kernel
theorem dL_law_8 : decode cL_law 8 = .ok (.new 10, 3) := by decide +kernel
theorem dL_law_11 : decode cL_law 11 = .ok (.dup, 1) := by decide +kernel
theorem dL_law_12 : decode cL_law 12 = .ok (.invokespecial 12, 3) := by decide +kernel
theorem dL_law_15 : decode cL_law 15 = .ok (.astore_n 2, 1) := by decide +kernel
theorem dL_law_16 : decode cL_law 16 = .ok (.iconst 0, 1) := by decide +kernel
theorem dL_law_17 : decode cL_law 17 = .ok (.istore_n 3, 1) := by decide +kernel
theorem dL_law_18 : decode cL_law 18 = .ok (.iload_n 3, 1) := by decide +kernel
theorem dL_law_19 : decode cL_law 19 = .ok (.aload_n 0, 1) := by decide +kernel
theorem dL_law_20 : decode cL_law 20 = .ok (.arraylength, 1) := by decide +kernel
theorem dL_law_21 : decode cL_law 21 = .ok (.bipush 6, 2) := by decide +kernel
theorem dL_law_23 : decode cL_law 23 = .ok (.isub, 1) := by decide +kernel
theorem dL_law_24 : decode cL_law 24 = .ok (.if_icmp .gt 786, 3) := by decide +kernel
theorem dL_law_27 : decode cL_law 27 = .ok (.aload_n 0, 1) := by decide +kernel
theorem dL_law_28 : decode cL_law 28 = .ok (.iload_n 3, 1) := by decide +kernel
theorem dL_law_29 : decode cL_law 29 = .ok (.iaload, 1) := by decide +kernel
theorem dL_law_30 : decode cL_law 30 = .ok (.bipush 31, 2) := by decide +kernel
theorem dL_law_32 : decode cL_law 32 = .ok (.iand, 1) := by decide +kernel
theorem dL_law_33 : decode cL_law 33 = .ok (.tableswitch 771 0 21 #[103, 136, 169, 232, 275, 308, 371, 394, 407, 432, 445, 458, 481, 494, 507, 520, 553, 596, 659, 692, 715, 748], 103) := by decide +kernel
theorem dL_law_136 : decode cL_law 136 = .ok (.aload_n 1, 1) := by decide +kernel
theorem dL_law_137 : decode cL_law 137 = .ok (.aload_n 0, 1) := by decide +kernel
theorem dL_law_138 : decode cL_law 138 = .ok (.iload_n 3, 1) := by decide +kernel
theorem dL_law_139 : decode cL_law 139 = .ok (.iconst 1, 1) := by decide +kernel
theorem dL_law_140 : decode cL_law 140 = .ok (.iadd, 1) := by decide +kernel
theorem dL_law_141 : decode cL_law 141 = .ok (.iaload, 1) := by decide +kernel
theorem dL_law_142 : decode cL_law 142 = .ok (.aload_n 0, 1) := by decide +kernel
theorem dL_law_143 : decode cL_law 143 = .ok (.iload_n 3, 1) := by decide +kernel
theorem dL_law_144 : decode cL_law 144 = .ok (.iconst 2, 1) := by decide +kernel
theorem dL_law_145 : decode cL_law 145 = .ok (.iadd, 1) := by decide +kernel
theorem dL_law_146 : decode cL_law 146 = .ok (.iaload, 1) := by decide +kernel
theorem dL_law_147 : decode cL_law 147 = .ok (.invokevirtual 13, 3) := by decide +kernel
theorem dL_law_150 : decode cL_law 150 = .ok (.aload_n 2, 1) := by decide +kernel
theorem dL_law_151 : decode cL_law 151 = .ok (.aload_n 0, 1) := by decide +kernel
theorem dL_law_152 : decode cL_law 152 = .ok (.iload_n 3, 1) := by decide +kernel
theorem dL_law_153 : decode cL_law 153 = .ok (.iconst 1, 1) := by decide +kernel
theorem dL_law_154 : decode cL_law 154 = .ok (.iadd, 1) := by decide +kernel
theorem dL_law_155 : decode cL_law 155 = .ok (.iaload, 1) := by decide +kernel
theorem dL_law_156 : decode cL_law 156 = .ok (.aload_n 0, 1) := by decide +kernel
theorem dL_law_157 : decode cL_law 157 = .ok (.iload_n 3, 1) := by decide +kernel
theorem dL_law_158 : decode cL_law 158 = .ok (.iconst 2, 1) := by decide +kernel
theorem dL_law_159 : decode cL_law 159 = .ok (.iadd, 1) := by decide +kernel
theorem dL_law_160 : decode cL_law 160 = .ok (.iaload, 1) := by decide +kernel
theorem dL_law_161 : decode cL_law 161 = .ok (.invokevirtual 17, 3) := by decide +kernel
theorem dL_law_164 : decode cL_law 164 = .ok (.if_icmp .eq 640, 3) := by decide +kernel
theorem dL_law_167 : decode cL_law 167 = .ok (.iconst 0, 1) := by decide +kernel
theorem dL_law_168 : decode cL_law 168 = .ok (.ireturn, 1) := by decide +kernel
theorem dL_law_169 : decode cL_law 169 = .ok (.aload_n 1, 1) := by decide +kernel
theorem dL_law_170 : decode cL_law 170 = .ok (.aload_n 0, 1) := by decide +kernel
theorem dL_law_171 : decode cL_law 171 = .ok (.iload_n 3, 1) := by decide +kernel
theorem dL_law_172 : decode cL_law 172 = .ok (.iconst 1, 1) := by decide +kernel
theorem dL_law_173 : decode cL_law 173 = .ok (.iadd, 1) := by decide +kernel
theorem dL_law_174 : decode cL_law 174 = .ok (.iaload, 1) := by decide +kernel
theorem dL_law_175 : decode cL_law 175 = .ok (.aload_n 0, 1) := by decide +kernel
theorem dL_law_176 : decode cL_law 176 = .ok (.iload_n 3, 1) := by decide +kernel
theorem dL_law_177 : decode cL_law 177 = .ok (.iconst 2, 1) := by decide +kernel
theorem dL_law_178 : decode cL_law 178 = .ok (.iadd, 1) := by decide +kernel
theorem dL_law_179 : decode cL_law 179 = .ok (.iaload, 1) := by decide +kernel
theorem dL_law_180 : decode cL_law 180 = .ok (.invokevirtual 18, 3) := by decide +kernel
theorem dL_law_183 : decode cL_law 183 = .ok (.aload_n 2, 1) := by decide +kernel
theorem dL_law_184 : decode cL_law 184 = .ok (.aload_n 0, 1) := by decide +kernel
theorem dL_law_185 : decode cL_law 185 = .ok (.iload_n 3, 1) := by decide +kernel
theorem dL_law_186 : decode cL_law 186 = .ok (.iconst 1, 1) := by decide +kernel
theorem dL_law_187 : decode cL_law 187 = .ok (.iadd, 1) := by decide +kernel
theorem dL_law_188 : decode cL_law 188 = .ok (.iaload, 1) := by decide +kernel
theorem dL_law_189 : decode cL_law 189 = .ok (.aload_n 0, 1) := by decide +kernel
theorem dL_law_190 : decode cL_law 190 = .ok (.iload_n 3, 1) := by decide +kernel
theorem dL_law_191 : decode cL_law 191 = .ok (.iconst 2, 1) := by decide +kernel
theorem dL_law_192 : decode cL_law 192 = .ok (.iadd, 1) := by decide +kernel
theorem dL_law_193 : decode cL_law 193 = .ok (.iaload, 1) := by decide +kernel
theorem dL_law_194 : decode cL_law 194 = .ok (.invokevirtual 21, 3) := by decide +kernel
theorem dL_law_197 : decode cL_law 197 = .ok (.if_icmp .eq 607, 3) := by decide +kernel
theorem dL_law_200 : decode cL_law 200 = .ok (.iconst 0, 1) := by decide +kernel
theorem dL_law_201 : decode cL_law 201 = .ok (.ireturn, 1) := by decide +kernel
theorem dL_law_202 : decode cL_law 202 = .ok (.aload_n 1, 1) := by decide +kernel
theorem dL_law_203 : decode cL_law 203 = .ok (.aload_n 0, 1) := by decide +kernel
theorem dL_law_204 : decode cL_law 204 = .ok (.iload_n 3, 1) := by decide +kernel
theorem dL_law_205 : decode cL_law 205 = .ok (.iconst 1, 1) := by decide +kernel
theorem dL_law_206 : decode cL_law 206 = .ok (.iadd, 1) := by decide +kernel
theorem dL_law_207 : decode cL_law 207 = .ok (.iaload, 1) := by decide +kernel
theorem dL_law_208 : decode cL_law 208 = .ok (.aload_n 0, 1) := by decide +kernel
theorem dL_law_209 : decode cL_law 209 = .ok (.iload_n 3, 1) := by decide +kernel
theorem dL_law_210 : decode cL_law 210 = .ok (.iconst 2, 1) := by decide +kernel
theorem dL_law_211 : decode cL_law 211 = .ok (.iadd, 1) := by decide +kernel
theorem dL_law_212 : decode cL_law 212 = .ok (.iaload, 1) := by decide +kernel
theorem dL_law_213 : decode cL_law 213 = .ok (.aload_n 0, 1) := by decide +kernel
theorem dL_law_214 : decode cL_law 214 = .ok (.iload_n 3, 1) := by decide +kernel
theorem dL_law_215 : decode cL_law 215 = .ok (.iconst 3, 1) := by decide +kernel
theorem dL_law_216 : decode cL_law 216 = .ok (.iadd, 1) := by decide +kernel
theorem dL_law_217 : decode cL_law 217 = .ok (.iaload, 1) := by decide +kernel
theorem dL_law_218 : decode cL_law 218 = .ok (.aload_n 0, 1) := by decide +kernel
theorem dL_law_219 : decode cL_law 219 = .ok (.iload_n 3, 1) := by decide +kernel
theorem dL_law_220 : decode cL_law 220 = .ok (.iconst 4, 1) := by decide +kernel
theorem dL_law_221 : decode cL_law 221 = .ok (.iadd, 1) := by decide +kernel
theorem dL_law_222 : decode cL_law 222 = .ok (.iaload, 1) := by decide +kernel
theorem dL_law_223 : decode cL_law 223 = .ok (.aload_n 0, 1) := by decide +kernel
theorem dL_law_224 : decode cL_law 224 = .ok (.iload_n 3, 1) := by decide +kernel
theorem dL_law_225 : decode cL_law 225 = .ok (.iconst 5, 1) := by decide +kernel
theorem dL_law_226 : decode cL_law 226 = .ok (.iadd, 1) := by decide +kernel
theorem dL_law_227 : decode cL_law 227 = .ok (.iaload, 1) := by decide +kernel
theorem dL_law_228 : decode cL_law 228 = .ok (.invokevirtual 22, 3) := by decide +kernel
theorem dL_law_231 : decode cL_law 231 = .ok (.aload_n 2, 1) := by decide +kernel
theorem dL_law_232 : decode cL_law 232 = .ok (.aload_n 0, 1) := by decide +kernel
theorem dL_law_233 : decode cL_law 233 = .ok (.iload_n 3, 1) := by decide +kernel
theorem dL_law_234 : decode cL_law 234 = .ok (.iconst 1, 1) := by decide +kernel
theorem dL_law_235 : decode cL_law 235 = .ok (.iadd, 1) := by decide +kernel
theorem dL_law_236 : decode cL_law 236 = .ok (.iaload, 1) := by decide +kernel
theorem dL_law_237 : decode cL_law 237 = .ok (.aload_n 0, 1) := by decide +kernel
theorem dL_law_238 : decode cL_law 238 = .ok (.iload_n 3, 1) := by decide +kernel
theorem dL_law_239 : decode cL_law 239 = .ok (.iconst 2, 1) := by decide +kernel
theorem dL_law_240 : decode cL_law 240 = .ok (.iadd, 1) := by decide +kernel
theorem dL_law_241 : decode cL_law 241 = .ok (.iaload, 1) := by decide +kernel
theorem dL_law_242 : decode cL_law 242 = .ok (.aload_n 0, 1) := by decide +kernel
theorem dL_law_243 : decode cL_law 243 = .ok (.iload_n 3, 1) := by decide +kernel
theorem dL_law_244 : decode cL_law 244 = .ok (.iconst 3, 1) := by decide +kernel
theorem dL_law_245 : decode cL_law 245 = .ok (.iadd, 1) := by decide +kernel
theorem dL_law_246 : decode cL_law 246 = .ok (.iaload, 1) := by decide +kernel
theorem dL_law_247 : decode cL_law 247 = .ok (.aload_n 0, 1) := by decide +kernel
theorem dL_law_248 : decode cL_law 248 = .ok (.iload_n 3, 1) := by decide +kernel
theorem dL_law_249 : decode cL_law 249 = .ok (.iconst 4, 1) := by decide +kernel
theorem dL_law_250 : decode cL_law 250 = .ok (.iadd, 1) := by decide +kernel
theorem dL_law_251 : decode cL_law 251 = .ok (.iaload, 1) := by decide +kernel
theorem dL_law_252 : decode cL_law 252 = .ok (.aload_n 0, 1) := by decide +kernel
theorem dL_law_253 : decode cL_law 253 = .ok (.iload_n 3, 1) := by decide +kernel
theorem dL_law_254 : decode cL_law 254 = .ok (.iconst 5, 1) := by decide +kernel
theorem dL_law_255 : decode cL_law 255 = .ok (.iadd, 1) := by decide +kernel
theorem dL_law_256 : decode cL_law 256 = .ok (.iaload, 1) := by decide +kernel
theorem dL_law_257 : decode cL_law 257 = .ok (.invokevirtual 26, 3) := by decide +kernel
theorem dL_law_260 : decode cL_law 260 = .ok (.if_icmp .eq 544, 3) := by decide +kernel
theorem dL_law_263 : decode cL_law 263 = .ok (.iconst 0, 1) := by decide +kernel
theorem dL_law_264 : decode cL_law 264 = .ok (.ireturn, 1) := by decide +kernel
theorem dL_law_265 : decode cL_law 265 = .ok (.aload_n 1, 1) := by decide +kernel
theorem dL_law_266 : decode cL_law 266 = .ok (.aload_n 0, 1) := by decide +kernel
theorem dL_law_267 : decode cL_law 267 = .ok (.iload_n 3, 1) := by decide +kernel
theorem dL_law_268 : decode cL_law 268 = .ok (.iconst 1, 1) := by decide +kernel
theorem dL_law_269 : decode cL_law 269 = .ok (.iadd, 1) := by decide +kernel
theorem dL_law_270 : decode cL_law 270 = .ok (.iaload, 1) := by decide +kernel
theorem dL_law_271 : decode cL_law 271 = .ok (.aload_n 0, 1) := by decide +kernel
theorem dL_law_272 : decode cL_law 272 = .ok (.iload_n 3, 1) := by decide +kernel
theorem dL_law_273 : decode cL_law 273 = .ok (.iconst 2, 1) := by decide +kernel
theorem dL_law_274 : decode cL_law 274 = .ok (.iadd, 1) := by decide +kernel
theorem dL_law_275 : decode cL_law 275 = .ok (.iaload, 1) := by decide +kernel
theorem dL_law_276 : decode cL_law 276 = .ok (.aload_n 0, 1) := by decide +kernel
theorem dL_law_277 : decode cL_law 277 = .ok (.iload_n 3, 1) := by decide +kernel
theorem dL_law_278 : decode cL_law 278 = .ok (.iconst 3, 1) := by decide +kernel
theorem dL_law_279 : decode cL_law 279 = .ok (.iadd, 1) := by decide +kernel
theorem dL_law_280 : decode cL_law 280 = .ok (.iaload, 1) := by decide +kernel
theorem dL_law_281 : decode cL_law 281 = .ok (.invokevirtual 27, 3) := by decide +kernel
theorem dL_law_284 : decode cL_law 284 = .ok (.aload_n 2, 1) := by decide +kernel
theorem dL_law_285 : decode cL_law 285 = .ok (.aload_n 0, 1) := by decide +kernel
theorem dL_law_286 : decode cL_law 286 = .ok (.iload_n 3, 1) := by decide +kernel
theorem dL_law_287 : decode cL_law 287 = .ok (.iconst 1, 1) := by decide +kernel
theorem dL_law_288 : decode cL_law 288 = .ok (.iadd, 1) := by decide +kernel
theorem dL_law_289 : decode cL_law 289 = .ok (.iaload, 1) := by decide +kernel
theorem dL_law_290 : decode cL_law 290 = .ok (.aload_n 0, 1) := by decide +kernel
theorem dL_law_291 : decode cL_law 291 = .ok (.iload_n 3, 1) := by decide +kernel
theorem dL_law_292 : decode cL_law 292 = .ok (.iconst 2, 1) := by decide +kernel
theorem dL_law_293 : decode cL_law 293 = .ok (.iadd, 1) := by decide +kernel
theorem dL_law_294 : decode cL_law 294 = .ok (.iaload, 1) := by decide +kernel
theorem dL_law_295 : decode cL_law 295 = .ok (.aload_n 0, 1) := by decide +kernel
theorem dL_law_296 : decode cL_law 296 = .ok (.iload_n 3, 1) := by decide +kernel
theorem dL_law_297 : decode cL_law 297 = .ok (.iconst 3, 1) := by decide +kernel
theorem dL_law_298 : decode cL_law 298 = .ok (.iadd, 1) := by decide +kernel
theorem dL_law_299 : decode cL_law 299 = .ok (.iaload, 1) := by decide +kernel
theorem dL_law_300 : decode cL_law 300 = .ok (.invokevirtual 31, 3) := by decide +kernel
theorem dL_law_303 : decode cL_law 303 = .ok (.if_icmp .eq 501, 3) := by decide +kernel
theorem dL_law_306 : decode cL_law 306 = .ok (.iconst 0, 1) := by decide +kernel
theorem dL_law_307 : decode cL_law 307 = .ok (.ireturn, 1) := by decide +kernel
theorem dL_law_308 : decode cL_law 308 = .ok (.aload_n 1, 1) := by decide +kernel
theorem dL_law_309 : decode cL_law 309 = .ok (.aload_n 0, 1) := by decide +kernel
theorem dL_law_310 : decode cL_law 310 = .ok (.iload_n 3, 1) := by decide +kernel
theorem dL_law_311 : decode cL_law 311 = .ok (.iconst 1, 1) := by decide +kernel
theorem dL_law_312 : decode cL_law 312 = .ok (.iadd, 1) := by decide +kernel
theorem dL_law_313 : decode cL_law 313 = .ok (.iaload, 1) := by decide +kernel
theorem dL_law_314 : decode cL_law 314 = .ok (.aload_n 0, 1) := by decide +kernel
theorem dL_law_315 : decode cL_law 315 = .ok (.iload_n 3, 1) := by decide +kernel
theorem dL_law_316 : decode cL_law 316 = .ok (.iconst 2, 1) := by decide +kernel
theorem dL_law_317 : decode cL_law 317 = .ok (.iadd, 1) := by decide +kernel
theorem dL_law_318 : decode cL_law 318 = .ok (.iaload, 1) := by decide +kernel
theorem dL_law_319 : decode cL_law 319 = .ok (.invokevirtual 32, 3) := by decide +kernel
theorem dL_law_322 : decode cL_law 322 = .ok (.aload_n 2, 1) := by decide +kernel
theorem dL_law_323 : decode cL_law 323 = .ok (.aload_n 0, 1) := by decide +kernel
theorem dL_law_324 : decode cL_law 324 = .ok (.iload_n 3, 1) := by decide +kernel
theorem dL_law_325 : decode cL_law 325 = .ok (.iconst 1, 1) := by decide +kernel
theorem dL_law_326 : decode cL_law 326 = .ok (.iadd, 1) := by decide +kernel
theorem dL_law_327 : decode cL_law 327 = .ok (.iaload, 1) := by decide +kernel
theorem dL_law_328 : decode cL_law 328 = .ok (.aload_n 0, 1) := by decide +kernel
theorem dL_law_329 : decode cL_law 329 = .ok (.iload_n 3, 1) := by decide +kernel
theorem dL_law_330 : decode cL_law 330 = .ok (.iconst 2, 1) := by decide +kernel
theorem dL_law_331 : decode cL_law 331 = .ok (.iadd, 1) := by decide +kernel
theorem dL_law_332 : decode cL_law 332 = .ok (.iaload, 1) := by decide +kernel
theorem dL_law_333 : decode cL_law 333 = .ok (.invokevirtual 35, 3) := by decide +kernel
theorem dL_law_336 : decode cL_law 336 = .ok (.if_icmp .eq 468, 3) := by decide +kernel
theorem dL_law_339 : decode cL_law 339 = .ok (.iconst 0, 1) := by decide +kernel
theorem dL_law_340 : decode cL_law 340 = .ok (.ireturn, 1) := by decide +kernel
theorem dL_law_341 : decode cL_law 341 = .ok (.aload_n 1, 1) := by decide +kernel
theorem dL_law_342 : decode cL_law 342 = .ok (.aload_n 0, 1) := by decide +kernel
theorem dL_law_343 : decode cL_law 343 = .ok (.iload_n 3, 1) := by decide +kernel
theorem dL_law_344 : decode cL_law 344 = .ok (.iconst 1, 1) := by decide +kernel
theorem dL_law_345 : decode cL_law 345 = .ok (.iadd, 1) := by decide +kernel
theorem dL_law_346 : decode cL_law 346 = .ok (.iaload, 1) := by decide +kernel
theorem dL_law_347 : decode cL_law 347 = .ok (.aload_n 0, 1) := by decide +kernel
theorem dL_law_348 : decode cL_law 348 = .ok (.iload_n 3, 1) := by decide +kernel
theorem dL_law_349 : decode cL_law 349 = .ok (.iconst 2, 1) := by decide +kernel
theorem dL_law_350 : decode cL_law 350 = .ok (.iadd, 1) := by decide +kernel
theorem dL_law_351 : decode cL_law 351 = .ok (.iaload, 1) := by decide +kernel
theorem dL_law_352 : decode cL_law 352 = .ok (.aload_n 0, 1) := by decide +kernel
theorem dL_law_353 : decode cL_law 353 = .ok (.iload_n 3, 1) := by decide +kernel
theorem dL_law_354 : decode cL_law 354 = .ok (.iconst 3, 1) := by decide +kernel
theorem dL_law_355 : decode cL_law 355 = .ok (.iadd, 1) := by decide +kernel
theorem dL_law_356 : decode cL_law 356 = .ok (.iaload, 1) := by decide +kernel
theorem dL_law_357 : decode cL_law 357 = .ok (.aload_n 0, 1) := by decide +kernel
theorem dL_law_358 : decode cL_law 358 = .ok (.iload_n 3, 1) := by decide +kernel
theorem dL_law_359 : decode cL_law 359 = .ok (.iconst 4, 1) := by decide +kernel
theorem dL_law_360 : decode cL_law 360 = .ok (.iadd, 1) := by decide +kernel
theorem dL_law_361 : decode cL_law 361 = .ok (.iaload, 1) := by decide +kernel
theorem dL_law_362 : decode cL_law 362 = .ok (.aload_n 0, 1) := by decide +kernel
theorem dL_law_363 : decode cL_law 363 = .ok (.iload_n 3, 1) := by decide +kernel
theorem dL_law_364 : decode cL_law 364 = .ok (.iconst 5, 1) := by decide +kernel
theorem dL_law_365 : decode cL_law 365 = .ok (.iadd, 1) := by decide +kernel
theorem dL_law_366 : decode cL_law 366 = .ok (.iaload, 1) := by decide +kernel
theorem dL_law_367 : decode cL_law 367 = .ok (.invokevirtual 36, 3) := by decide +kernel
theorem dL_law_370 : decode cL_law 370 = .ok (.aload_n 2, 1) := by decide +kernel
theorem dL_law_371 : decode cL_law 371 = .ok (.aload_n 0, 1) := by decide +kernel
theorem dL_law_372 : decode cL_law 372 = .ok (.iload_n 3, 1) := by decide +kernel
theorem dL_law_373 : decode cL_law 373 = .ok (.iconst 1, 1) := by decide +kernel
theorem dL_law_374 : decode cL_law 374 = .ok (.iadd, 1) := by decide +kernel
theorem dL_law_375 : decode cL_law 375 = .ok (.iaload, 1) := by decide +kernel
theorem dL_law_376 : decode cL_law 376 = .ok (.aload_n 0, 1) := by decide +kernel
theorem dL_law_377 : decode cL_law 377 = .ok (.iload_n 3, 1) := by decide +kernel
theorem dL_law_378 : decode cL_law 378 = .ok (.iconst 2, 1) := by decide +kernel
theorem dL_law_379 : decode cL_law 379 = .ok (.iadd, 1) := by decide +kernel
theorem dL_law_380 : decode cL_law 380 = .ok (.iaload, 1) := by decide +kernel
theorem dL_law_381 : decode cL_law 381 = .ok (.aload_n 0, 1) := by decide +kernel
theorem dL_law_382 : decode cL_law 382 = .ok (.iload_n 3, 1) := by decide +kernel
theorem dL_law_383 : decode cL_law 383 = .ok (.iconst 3, 1) := by decide +kernel
theorem dL_law_384 : decode cL_law 384 = .ok (.iadd, 1) := by decide +kernel
theorem dL_law_385 : decode cL_law 385 = .ok (.iaload, 1) := by decide +kernel
theorem dL_law_386 : decode cL_law 386 = .ok (.aload_n 0, 1) := by decide +kernel
theorem dL_law_387 : decode cL_law 387 = .ok (.iload_n 3, 1) := by decide +kernel
theorem dL_law_388 : decode cL_law 388 = .ok (.iconst 4, 1) := by decide +kernel
theorem dL_law_389 : decode cL_law 389 = .ok (.iadd, 1) := by decide +kernel
theorem dL_law_390 : decode cL_law 390 = .ok (.iaload, 1) := by decide +kernel
theorem dL_law_391 : decode cL_law 391 = .ok (.aload_n 0, 1) := by decide +kernel
theorem dL_law_392 : decode cL_law 392 = .ok (.iload_n 3, 1) := by decide +kernel
theorem dL_law_393 : decode cL_law 393 = .ok (.iconst 5, 1) := by decide +kernel
theorem dL_law_394 : decode cL_law 394 = .ok (.iadd, 1) := by decide +kernel
theorem dL_law_395 : decode cL_law 395 = .ok (.iaload, 1) := by decide +kernel
theorem dL_law_396 : decode cL_law 396 = .ok (.invokevirtual 39, 3) := by decide +kernel
theorem dL_law_399 : decode cL_law 399 = .ok (.if_icmp .eq 405, 3) := by decide +kernel
theorem dL_law_402 : decode cL_law 402 = .ok (.iconst 0, 1) := by decide +kernel
theorem dL_law_403 : decode cL_law 403 = .ok (.ireturn, 1) := by decide +kernel
theorem dL_law_404 : decode cL_law 404 = .ok (.aload_n 1, 1) := by decide +kernel
theorem dL_law_405 : decode cL_law 405 = .ok (.aload_n 0, 1) := by decide +kernel
theorem dL_law_406 : decode cL_law 406 = .ok (.iload_n 3, 1) := by decide +kernel
theorem dL_law_407 : decode cL_law 407 = .ok (.iconst 1, 1) := by decide +kernel
theorem dL_law_408 : decode cL_law 408 = .ok (.iadd, 1) := by decide +kernel
theorem dL_law_409 : decode cL_law 409 = .ok (.iaload, 1) := by decide +kernel
theorem dL_law_410 : decode cL_law 410 = .ok (.invokevirtual 40, 3) := by decide +kernel
theorem dL_law_413 : decode cL_law 413 = .ok (.aload_n 2, 1) := by decide +kernel
theorem dL_law_414 : decode cL_law 414 = .ok (.aload_n 0, 1) := by decide +kernel
theorem dL_law_415 : decode cL_law 415 = .ok (.iload_n 3, 1) := by decide +kernel
theorem dL_law_416 : decode cL_law 416 = .ok (.iconst 1, 1) := by decide +kernel
theorem dL_law_417 : decode cL_law 417 = .ok (.iadd, 1) := by decide +kernel
theorem dL_law_418 : decode cL_law 418 = .ok (.iaload, 1) := by decide +kernel
theorem dL_law_419 : decode cL_law 419 = .ok (.invokevirtual 44, 3) := by decide +kernel
theorem dL_law_422 : decode cL_law 422 = .ok (.if_icmp .eq 382, 3) := by decide +kernel
theorem dL_law_425 : decode cL_law 425 = .ok (.iconst 0, 1) := by decide +kernel
theorem dL_law_426 : decode cL_law 426 = .ok (.ireturn, 1) := by decide +kernel
theorem dL_law_427 : decode cL_law 427 = .ok (.aload_n 1, 1) := by decide +kernel
theorem dL_law_428 : decode cL_law 428 = .ok (.invokevirtual 45, 3) := by decide +kernel
theorem dL_law_431 : decode cL_law 431 = .ok (.aload_n 2, 1) := by decide +kernel
theorem dL_law_432 : decode cL_law 432 = .ok (.invokevirtual 49, 3) := by decide +kernel
theorem dL_law_435 : decode cL_law 435 = .ok (.if_icmp .eq 369, 3) := by decide +kernel
theorem dL_law_438 : decode cL_law 438 = .ok (.iconst 0, 1) := by decide +kernel
theorem dL_law_439 : decode cL_law 439 = .ok (.ireturn, 1) := by decide +kernel
theorem dL_law_440 : decode cL_law 440 = .ok (.aload_n 1, 1) := by decide +kernel
theorem dL_law_441 : decode cL_law 441 = .ok (.aload_n 0, 1) := by decide +kernel
theorem dL_law_442 : decode cL_law 442 = .ok (.iload_n 3, 1) := by decide +kernel
theorem dL_law_443 : decode cL_law 443 = .ok (.iconst 1, 1) := by decide +kernel
theorem dL_law_444 : decode cL_law 444 = .ok (.iadd, 1) := by decide +kernel
theorem dL_law_445 : decode cL_law 445 = .ok (.iaload, 1) := by decide +kernel
theorem dL_law_446 : decode cL_law 446 = .ok (.i2c, 1) := by decide +kernel
theorem dL_law_447 : decode cL_law 447 = .ok (.invokevirtual 50, 3) := by decide +kernel
theorem dL_law_450 : decode cL_law 450 = .ok (.aload_n 2, 1) := by decide +kernel
theorem dL_law_451 : decode cL_law 451 = .ok (.aload_n 0, 1) := by decide +kernel
theorem dL_law_452 : decode cL_law 452 = .ok (.iload_n 3, 1) := by decide +kernel
theorem dL_law_453 : decode cL_law 453 = .ok (.iconst 1, 1) := by decide +kernel
theorem dL_law_454 : decode cL_law 454 = .ok (.iadd, 1) := by decide +kernel
theorem dL_law_455 : decode cL_law 455 = .ok (.iaload, 1) := by decide +kernel
theorem dL_law_456 : decode cL_law 456 = .ok (.i2c, 1) := by decide +kernel
theorem dL_law_457 : decode cL_law 457 = .ok (.invokevirtual 54, 3) := by decide +kernel
theorem dL_law_460 : decode cL_law 460 = .ok (.if_icmp .eq 344, 3) := by decide +kernel
theorem dL_law_463 : decode cL_law 463 = .ok (.iconst 0, 1) := by decide +kernel
theorem dL_law_464 : decode cL_law 464 = .ok (.ireturn, 1) := by decide +kernel
theorem dL_law_465 : decode cL_law 465 = .ok (.aload_n 1, 1) := by decide +kernel
theorem dL_law_466 : decode cL_law 466 = .ok (.invokevirtual 55, 3) := by decide +kernel
theorem dL_law_469 : decode cL_law 469 = .ok (.aload_n 2, 1) := by decide +kernel
theorem dL_law_470 : decode cL_law 470 = .ok (.invokevirtual 58, 3) := by decide +kernel
theorem dL_law_473 : decode cL_law 473 = .ok (.if_icmp .eq 331, 3) := by decide +kernel
theorem dL_law_476 : decode cL_law 476 = .ok (.iconst 0, 1) := by decide +kernel
theorem dL_law_477 : decode cL_law 477 = .ok (.ireturn, 1) := by decide +kernel
theorem dL_law_478 : decode cL_law 478 = .ok (.aload_n 1, 1) := by decide +kernel
theorem dL_law_479 : decode cL_law 479 = .ok (.invokevirtual 59, 3) := by decide +kernel
theorem dL_law_482 : decode cL_law 482 = .ok (.aload_n 2, 1) := by decide +kernel
theorem dL_law_483 : decode cL_law 483 = .ok (.invokevirtual 62, 3) := by decide +kernel
theorem dL_law_486 : decode cL_law 486 = .ok (.if_icmp .eq 318, 3) := by decide +kernel
theorem dL_law_489 : decode cL_law 489 = .ok (.iconst 0, 1) := by decide +kernel
theorem dL_law_490 : decode cL_law 490 = .ok (.ireturn, 1) := by decide +kernel
theorem dL_law_491 : decode cL_law 491 = .ok (.aload_n 1, 1) := by decide +kernel
theorem dL_law_492 : decode cL_law 492 = .ok (.aload_n 0, 1) := by decide +kernel
theorem dL_law_493 : decode cL_law 493 = .ok (.iload_n 3, 1) := by decide +kernel
theorem dL_law_494 : decode cL_law 494 = .ok (.iconst 1, 1) := by decide +kernel
theorem dL_law_495 : decode cL_law 495 = .ok (.iadd, 1) := by decide +kernel
theorem dL_law_496 : decode cL_law 496 = .ok (.iaload, 1) := by decide +kernel
theorem dL_law_497 : decode cL_law 497 = .ok (.invokevirtual 63, 3) := by decide +kernel
theorem dL_law_500 : decode cL_law 500 = .ok (.aload_n 2, 1) := by decide +kernel
theorem dL_law_501 : decode cL_law 501 = .ok (.aload_n 0, 1) := by decide +kernel
theorem dL_law_502 : decode cL_law 502 = .ok (.iload_n 3, 1) := by decide +kernel
theorem dL_law_503 : decode cL_law 503 = .ok (.iconst 1, 1) := by decide +kernel
theorem dL_law_504 : decode cL_law 504 = .ok (.iadd, 1) := by decide +kernel
theorem dL_law_505 : decode cL_law 505 = .ok (.iaload, 1) := by decide +kernel
theorem dL_law_506 : decode cL_law 506 = .ok (.invokevirtual 66, 3) := by decide +kernel
theorem dL_law_509 : decode cL_law 509 = .ok (.if_icmp .eq 295, 3) := by decide +kernel
theorem dL_law_512 : decode cL_law 512 = .ok (.iconst 0, 1) := by decide +kernel
theorem dL_law_513 : decode cL_law 513 = .ok (.ireturn, 1) := by decide +kernel
theorem dL_law_514 : decode cL_law 514 = .ok (.aload_n 1, 1) := by decide +kernel
theorem dL_law_515 : decode cL_law 515 = .ok (.invokevirtual 67, 3) := by decide +kernel
theorem dL_law_518 : decode cL_law 518 = .ok (.aload_n 2, 1) := by decide +kernel
theorem dL_law_519 : decode cL_law 519 = .ok (.invokevirtual 70, 3) := by decide +kernel
theorem dL_law_522 : decode cL_law 522 = .ok (.if_icmp .eq 282, 3) := by decide +kernel
theorem dL_law_525 : decode cL_law 525 = .ok (.iconst 0, 1) := by decide +kernel
theorem dL_law_526 : decode cL_law 526 = .ok (.ireturn, 1) := by decide +kernel
theorem dL_law_527 : decode cL_law 527 = .ok (.aload_n 1, 1) := by decide +kernel
theorem dL_law_528 : decode cL_law 528 = .ok (.invokevirtual 71, 3) := by decide +kernel
theorem dL_law_531 : decode cL_law 531 = .ok (.aload_n 2, 1) := by decide +kernel
theorem dL_law_532 : decode cL_law 532 = .ok (.invokevirtual 74, 3) := by decide +kernel
theorem dL_law_535 : decode cL_law 535 = .ok (.if_icmp .eq 269, 3) := by decide +kernel
theorem dL_law_538 : decode cL_law 538 = .ok (.iconst 0, 1) := by decide +kernel
theorem dL_law_539 : decode cL_law 539 = .ok (.ireturn, 1) := by decide +kernel
theorem dL_law_540 : decode cL_law 540 = .ok (.aload_n 1, 1) := by decide +kernel
theorem dL_law_541 : decode cL_law 541 = .ok (.invokevirtual 75, 3) := by decide +kernel
theorem dL_law_544 : decode cL_law 544 = .ok (.aload_n 2, 1) := by decide +kernel
theorem dL_law_545 : decode cL_law 545 = .ok (.invokevirtual 78, 3) := by decide +kernel
theorem dL_law_548 : decode cL_law 548 = .ok (.if_icmp .eq 256, 3) := by decide +kernel
theorem dL_law_551 : decode cL_law 551 = .ok (.iconst 0, 1) := by decide +kernel
theorem dL_law_552 : decode cL_law 552 = .ok (.ireturn, 1) := by decide +kernel
theorem dL_law_553 : decode cL_law 553 = .ok (.aload_n 1, 1) := by decide +kernel
theorem dL_law_554 : decode cL_law 554 = .ok (.aload_n 0, 1) := by decide +kernel
theorem dL_law_555 : decode cL_law 555 = .ok (.iload_n 3, 1) := by decide +kernel
theorem dL_law_556 : decode cL_law 556 = .ok (.iconst 1, 1) := by decide +kernel
theorem dL_law_557 : decode cL_law 557 = .ok (.iadd, 1) := by decide +kernel
theorem dL_law_558 : decode cL_law 558 = .ok (.iaload, 1) := by decide +kernel
theorem dL_law_559 : decode cL_law 559 = .ok (.aload_n 0, 1) := by decide +kernel
theorem dL_law_560 : decode cL_law 560 = .ok (.iload_n 3, 1) := by decide +kernel
theorem dL_law_561 : decode cL_law 561 = .ok (.iconst 2, 1) := by decide +kernel
theorem dL_law_562 : decode cL_law 562 = .ok (.iadd, 1) := by decide +kernel
theorem dL_law_563 : decode cL_law 563 = .ok (.iaload, 1) := by decide +kernel
theorem dL_law_564 : decode cL_law 564 = .ok (.invokevirtual 79, 3) := by decide +kernel
theorem dL_law_567 : decode cL_law 567 = .ok (.aload_n 2, 1) := by decide +kernel
theorem dL_law_568 : decode cL_law 568 = .ok (.aload_n 0, 1) := by decide +kernel
theorem dL_law_569 : decode cL_law 569 = .ok (.iload_n 3, 1) := by decide +kernel
theorem dL_law_570 : decode cL_law 570 = .ok (.iconst 1, 1) := by decide +kernel
theorem dL_law_571 : decode cL_law 571 = .ok (.iadd, 1) := by decide +kernel
theorem dL_law_572 : decode cL_law 572 = .ok (.iaload, 1) := by decide +kernel
theorem dL_law_573 : decode cL_law 573 = .ok (.aload_n 0, 1) := by decide +kernel
theorem dL_law_574 : decode cL_law 574 = .ok (.iload_n 3, 1) := by decide +kernel
theorem dL_law_575 : decode cL_law 575 = .ok (.iconst 2, 1) := by decide +kernel
theorem dL_law_576 : decode cL_law 576 = .ok (.iadd, 1) := by decide +kernel
theorem dL_law_577 : decode cL_law 577 = .ok (.iaload, 1) := by decide +kernel
theorem dL_law_578 : decode cL_law 578 = .ok (.invokevirtual 82, 3) := by decide +kernel
theorem dL_law_581 : decode cL_law 581 = .ok (.if_icmp .eq 223, 3) := by decide +kernel
theorem dL_law_584 : decode cL_law 584 = .ok (.iconst 0, 1) := by decide +kernel
theorem dL_law_585 : decode cL_law 585 = .ok (.ireturn, 1) := by decide +kernel
theorem dL_law_586 : decode cL_law 586 = .ok (.aload_n 1, 1) := by decide +kernel
theorem dL_law_587 : decode cL_law 587 = .ok (.aload_n 0, 1) := by decide +kernel
theorem dL_law_588 : decode cL_law 588 = .ok (.iload_n 3, 1) := by decide +kernel
theorem dL_law_589 : decode cL_law 589 = .ok (.iconst 1, 1) := by decide +kernel
theorem dL_law_590 : decode cL_law 590 = .ok (.iadd, 1) := by decide +kernel
theorem dL_law_591 : decode cL_law 591 = .ok (.iaload, 1) := by decide +kernel
theorem dL_law_592 : decode cL_law 592 = .ok (.aload_n 0, 1) := by decide +kernel
theorem dL_law_593 : decode cL_law 593 = .ok (.iload_n 3, 1) := by decide +kernel
theorem dL_law_594 : decode cL_law 594 = .ok (.iconst 2, 1) := by decide +kernel
theorem dL_law_595 : decode cL_law 595 = .ok (.iadd, 1) := by decide +kernel
theorem dL_law_596 : decode cL_law 596 = .ok (.iaload, 1) := by decide +kernel
theorem dL_law_597 : decode cL_law 597 = .ok (.aload_n 0, 1) := by decide +kernel
theorem dL_law_598 : decode cL_law 598 = .ok (.iload_n 3, 1) := by decide +kernel
theorem dL_law_599 : decode cL_law 599 = .ok (.iconst 3, 1) := by decide +kernel
theorem dL_law_600 : decode cL_law 600 = .ok (.iadd, 1) := by decide +kernel
theorem dL_law_601 : decode cL_law 601 = .ok (.iaload, 1) := by decide +kernel
theorem dL_law_602 : decode cL_law 602 = .ok (.invokevirtual 83, 3) := by decide +kernel
theorem dL_law_605 : decode cL_law 605 = .ok (.aload_n 2, 1) := by decide +kernel
theorem dL_law_606 : decode cL_law 606 = .ok (.aload_n 0, 1) := by decide +kernel
theorem dL_law_607 : decode cL_law 607 = .ok (.iload_n 3, 1) := by decide +kernel
theorem dL_law_608 : decode cL_law 608 = .ok (.iconst 1, 1) := by decide +kernel
theorem dL_law_609 : decode cL_law 609 = .ok (.iadd, 1) := by decide +kernel
theorem dL_law_610 : decode cL_law 610 = .ok (.iaload, 1) := by decide +kernel
theorem dL_law_611 : decode cL_law 611 = .ok (.aload_n 0, 1) := by decide +kernel
theorem dL_law_612 : decode cL_law 612 = .ok (.iload_n 3, 1) := by decide +kernel
theorem dL_law_613 : decode cL_law 613 = .ok (.iconst 2, 1) := by decide +kernel
theorem dL_law_614 : decode cL_law 614 = .ok (.iadd, 1) := by decide +kernel
theorem dL_law_615 : decode cL_law 615 = .ok (.iaload, 1) := by decide +kernel
theorem dL_law_616 : decode cL_law 616 = .ok (.aload_n 0, 1) := by decide +kernel
theorem dL_law_617 : decode cL_law 617 = .ok (.iload_n 3, 1) := by decide +kernel
theorem dL_law_618 : decode cL_law 618 = .ok (.iconst 3, 1) := by decide +kernel
theorem dL_law_619 : decode cL_law 619 = .ok (.iadd, 1) := by decide +kernel
theorem dL_law_620 : decode cL_law 620 = .ok (.iaload, 1) := by decide +kernel
theorem dL_law_621 : decode cL_law 621 = .ok (.invokevirtual 86, 3) := by decide +kernel
theorem dL_law_624 : decode cL_law 624 = .ok (.if_icmp .eq 180, 3) := by decide +kernel
theorem dL_law_627 : decode cL_law 627 = .ok (.iconst 0, 1) := by decide +kernel
theorem dL_law_628 : decode cL_law 628 = .ok (.ireturn, 1) := by decide +kernel
theorem dL_law_629 : decode cL_law 629 = .ok (.aload_n 1, 1) := by decide +kernel
theorem dL_law_630 : decode cL_law 630 = .ok (.aload_n 0, 1) := by decide +kernel
theorem dL_law_631 : decode cL_law 631 = .ok (.iload_n 3, 1) := by decide +kernel
theorem dL_law_632 : decode cL_law 632 = .ok (.iconst 1, 1) := by decide +kernel
theorem dL_law_633 : decode cL_law 633 = .ok (.iadd, 1) := by decide +kernel
theorem dL_law_634 : decode cL_law 634 = .ok (.iaload, 1) := by decide +kernel
theorem dL_law_635 : decode cL_law 635 = .ok (.aload_n 0, 1) := by decide +kernel
theorem dL_law_636 : decode cL_law 636 = .ok (.iload_n 3, 1) := by decide +kernel
theorem dL_law_637 : decode cL_law 637 = .ok (.iconst 2, 1) := by decide +kernel
theorem dL_law_638 : decode cL_law 638 = .ok (.iadd, 1) := by decide +kernel
theorem dL_law_639 : decode cL_law 639 = .ok (.iaload, 1) := by decide +kernel
theorem dL_law_640 : decode cL_law 640 = .ok (.aload_n 0, 1) := by decide +kernel
theorem dL_law_641 : decode cL_law 641 = .ok (.iload_n 3, 1) := by decide +kernel
theorem dL_law_642 : decode cL_law 642 = .ok (.iconst 3, 1) := by decide +kernel
theorem dL_law_643 : decode cL_law 643 = .ok (.iadd, 1) := by decide +kernel
theorem dL_law_644 : decode cL_law 644 = .ok (.iaload, 1) := by decide +kernel
theorem dL_law_645 : decode cL_law 645 = .ok (.aload_n 0, 1) := by decide +kernel
theorem dL_law_646 : decode cL_law 646 = .ok (.iload_n 3, 1) := by decide +kernel
theorem dL_law_647 : decode cL_law 647 = .ok (.iconst 4, 1) := by decide +kernel
theorem dL_law_648 : decode cL_law 648 = .ok (.iadd, 1) := by decide +kernel
theorem dL_law_649 : decode cL_law 649 = .ok (.iaload, 1) := by decide +kernel
theorem dL_law_650 : decode cL_law 650 = .ok (.aload_n 0, 1) := by decide +kernel
theorem dL_law_651 : decode cL_law 651 = .ok (.iload_n 3, 1) := by decide +kernel
theorem dL_law_652 : decode cL_law 652 = .ok (.iconst 5, 1) := by decide +kernel
theorem dL_law_653 : decode cL_law 653 = .ok (.iadd, 1) := by decide +kernel
theorem dL_law_654 : decode cL_law 654 = .ok (.iaload, 1) := by decide +kernel
theorem dL_law_655 : decode cL_law 655 = .ok (.invokevirtual 87, 3) := by decide +kernel
theorem dL_law_658 : decode cL_law 658 = .ok (.aload_n 2, 1) := by decide +kernel
theorem dL_law_659 : decode cL_law 659 = .ok (.aload_n 0, 1) := by decide +kernel
theorem dL_law_660 : decode cL_law 660 = .ok (.iload_n 3, 1) := by decide +kernel
theorem dL_law_661 : decode cL_law 661 = .ok (.iconst 1, 1) := by decide +kernel
theorem dL_law_662 : decode cL_law 662 = .ok (.iadd, 1) := by decide +kernel
theorem dL_law_663 : decode cL_law 663 = .ok (.iaload, 1) := by decide +kernel
theorem dL_law_664 : decode cL_law 664 = .ok (.aload_n 0, 1) := by decide +kernel
theorem dL_law_665 : decode cL_law 665 = .ok (.iload_n 3, 1) := by decide +kernel
theorem dL_law_666 : decode cL_law 666 = .ok (.iconst 2, 1) := by decide +kernel
theorem dL_law_667 : decode cL_law 667 = .ok (.iadd, 1) := by decide +kernel
theorem dL_law_668 : decode cL_law 668 = .ok (.iaload, 1) := by decide +kernel
theorem dL_law_669 : decode cL_law 669 = .ok (.aload_n 0, 1) := by decide +kernel
theorem dL_law_670 : decode cL_law 670 = .ok (.iload_n 3, 1) := by decide +kernel
theorem dL_law_671 : decode cL_law 671 = .ok (.iconst 3, 1) := by decide +kernel
theorem dL_law_672 : decode cL_law 672 = .ok (.iadd, 1) := by decide +kernel
theorem dL_law_673 : decode cL_law 673 = .ok (.iaload, 1) := by decide +kernel
theorem dL_law_674 : decode cL_law 674 = .ok (.aload_n 0, 1) := by decide +kernel
theorem dL_law_675 : decode cL_law 675 = .ok (.iload_n 3, 1) := by decide +kernel
theorem dL_law_676 : decode cL_law 676 = .ok (.iconst 4, 1) := by decide +kernel
theorem dL_law_677 : decode cL_law 677 = .ok (.iadd, 1) := by decide +kernel
theorem dL_law_678 : decode cL_law 678 = .ok (.iaload, 1) := by decide +kernel
theorem dL_law_679 : decode cL_law 679 = .ok (.aload_n 0, 1) := by decide +kernel
theorem dL_law_680 : decode cL_law 680 = .ok (.iload_n 3, 1) := by decide +kernel
theorem dL_law_681 : decode cL_law 681 = .ok (.iconst 5, 1) := by decide +kernel
theorem dL_law_682 : decode cL_law 682 = .ok (.iadd, 1) := by decide +kernel
theorem dL_law_683 : decode cL_law 683 = .ok (.iaload, 1) := by decide +kernel
theorem dL_law_684 : decode cL_law 684 = .ok (.invokevirtual 90, 3) := by decide +kernel
theorem dL_law_687 : decode cL_law 687 = .ok (.if_icmp .eq 117, 3) := by decide +kernel
theorem dL_law_690 : decode cL_law 690 = .ok (.iconst 0, 1) := by decide +kernel
theorem dL_law_691 : decode cL_law 691 = .ok (.ireturn, 1) := by decide +kernel
theorem dL_law_692 : decode cL_law 692 = .ok (.aload_n 1, 1) := by decide +kernel
theorem dL_law_693 : decode cL_law 693 = .ok (.aload_n 0, 1) := by decide +kernel
theorem dL_law_694 : decode cL_law 694 = .ok (.iload_n 3, 1) := by decide +kernel
theorem dL_law_695 : decode cL_law 695 = .ok (.iconst 1, 1) := by decide +kernel
theorem dL_law_696 : decode cL_law 696 = .ok (.iadd, 1) := by decide +kernel
theorem dL_law_697 : decode cL_law 697 = .ok (.iaload, 1) := by decide +kernel
theorem dL_law_698 : decode cL_law 698 = .ok (.aload_n 0, 1) := by decide +kernel
theorem dL_law_699 : decode cL_law 699 = .ok (.iload_n 3, 1) := by decide +kernel
theorem dL_law_700 : decode cL_law 700 = .ok (.iconst 2, 1) := by decide +kernel
theorem dL_law_701 : decode cL_law 701 = .ok (.iadd, 1) := by decide +kernel
theorem dL_law_702 : decode cL_law 702 = .ok (.iaload, 1) := by decide +kernel
theorem dL_law_703 : decode cL_law 703 = .ok (.invokevirtual 91, 3) := by decide +kernel
theorem dL_law_706 : decode cL_law 706 = .ok (.aload_n 2, 1) := by decide +kernel
theorem dL_law_707 : decode cL_law 707 = .ok (.aload_n 0, 1) := by decide +kernel
theorem dL_law_708 : decode cL_law 708 = .ok (.iload_n 3, 1) := by decide +kernel
theorem dL_law_709 : decode cL_law 709 = .ok (.iconst 1, 1) := by decide +kernel
theorem dL_law_710 : decode cL_law 710 = .ok (.iadd, 1) := by decide +kernel
theorem dL_law_711 : decode cL_law 711 = .ok (.iaload, 1) := by decide +kernel
theorem dL_law_712 : decode cL_law 712 = .ok (.aload_n 0, 1) := by decide +kernel
theorem dL_law_713 : decode cL_law 713 = .ok (.iload_n 3, 1) := by decide +kernel
theorem dL_law_714 : decode cL_law 714 = .ok (.iconst 2, 1) := by decide +kernel
theorem dL_law_715 : decode cL_law 715 = .ok (.iadd, 1) := by decide +kernel
theorem dL_law_716 : decode cL_law 716 = .ok (.iaload, 1) := by decide +kernel
theorem dL_law_717 : decode cL_law 717 = .ok (.invokevirtual 94, 3) := by decide +kernel
theorem dL_law_720 : decode cL_law 720 = .ok (.if_icmp .eq 84, 3) := by decide +kernel
theorem dL_law_723 : decode cL_law 723 = .ok (.iconst 0, 1) := by decide +kernel
theorem dL_law_724 : decode cL_law 724 = .ok (.ireturn, 1) := by decide +kernel
theorem dL_law_725 : decode cL_law 725 = .ok (.aload_n 1, 1) := by decide +kernel
theorem dL_law_726 : decode cL_law 726 = .ok (.aload_n 0, 1) := by decide +kernel
theorem dL_law_727 : decode cL_law 727 = .ok (.iload_n 3, 1) := by decide +kernel
theorem dL_law_728 : decode cL_law 728 = .ok (.iconst 1, 1) := by decide +kernel
theorem dL_law_729 : decode cL_law 729 = .ok (.iadd, 1) := by decide +kernel
theorem dL_law_730 : decode cL_law 730 = .ok (.iaload, 1) := by decide +kernel
theorem dL_law_731 : decode cL_law 731 = .ok (.invokevirtual 95, 3) := by decide +kernel
theorem dL_law_734 : decode cL_law 734 = .ok (.aload_n 2, 1) := by decide +kernel
theorem dL_law_735 : decode cL_law 735 = .ok (.aload_n 0, 1) := by decide +kernel
theorem dL_law_736 : decode cL_law 736 = .ok (.iload_n 3, 1) := by decide +kernel
theorem dL_law_737 : decode cL_law 737 = .ok (.iconst 1, 1) := by decide +kernel
theorem dL_law_738 : decode cL_law 738 = .ok (.iadd, 1) := by decide +kernel
theorem dL_law_739 : decode cL_law 739 = .ok (.iaload, 1) := by decide +kernel
theorem dL_law_740 : decode cL_law 740 = .ok (.invokevirtual 98, 3) := by decide +kernel
theorem dL_law_743 : decode cL_law 743 = .ok (.if_icmp .eq 61, 3) := by decide +kernel
theorem dL_law_746 : decode cL_law 746 = .ok (.iconst 0, 1) := by decide +kernel
theorem dL_law_747 : decode cL_law 747 = .ok (.ireturn, 1) := by decide +kernel
theorem dL_law_748 : decode cL_law 748 = .ok (.aload_n 1, 1) := by decide +kernel
theorem dL_law_749 : decode cL_law 749 = .ok (.aload_n 0, 1) := by decide +kernel
theorem dL_law_750 : decode cL_law 750 = .ok (.iload_n 3, 1) := by decide +kernel
theorem dL_law_751 : decode cL_law 751 = .ok (.iconst 1, 1) := by decide +kernel
theorem dL_law_752 : decode cL_law 752 = .ok (.iadd, 1) := by decide +kernel
theorem dL_law_753 : decode cL_law 753 = .ok (.iaload, 1) := by decide +kernel
theorem dL_law_754 : decode cL_law 754 = .ok (.aload_n 0, 1) := by decide +kernel
theorem dL_law_755 : decode cL_law 755 = .ok (.iload_n 3, 1) := by decide +kernel
theorem dL_law_756 : decode cL_law 756 = .ok (.iconst 2, 1) := by decide +kernel
theorem dL_law_757 : decode cL_law 757 = .ok (.iadd, 1) := by decide +kernel
theorem dL_law_758 : decode cL_law 758 = .ok (.iaload, 1) := by decide +kernel
theorem dL_law_759 : decode cL_law 759 = .ok (.invokevirtual 99, 3) := by decide +kernel
theorem dL_law_762 : decode cL_law 762 = .ok (.aload_n 2, 1) := by decide +kernel
theorem dL_law_763 : decode cL_law 763 = .ok (.aload_n 0, 1) := by decide +kernel
theorem dL_law_764 : decode cL_law 764 = .ok (.iload_n 3, 1) := by decide +kernel
theorem dL_law_765 : decode cL_law 765 = .ok (.iconst 1, 1) := by decide +kernel
theorem dL_law_766 : decode cL_law 766 = .ok (.iadd, 1) := by decide +kernel
theorem dL_law_767 : decode cL_law 767 = .ok (.iaload, 1) := by decide +kernel
theorem dL_law_768 : decode cL_law 768 = .ok (.aload_n 0, 1) := by decide +kernel
theorem dL_law_769 : decode cL_law 769 = .ok (.iload_n 3, 1) := by decide +kernel
theorem dL_law_770 : decode cL_law 770 = .ok (.iconst 2, 1) := by decide +kernel
theorem dL_law_771 : decode cL_law 771 = .ok (.iadd, 1) := by decide +kernel
theorem dL_law_772 : decode cL_law 772 = .ok (.iaload, 1) := by decide +kernel
theorem dL_law_773 : decode cL_law 773 = .ok (.invokevirtual 102, 3) := by decide +kernel
theorem dL_law_776 : decode cL_law 776 = .ok (.if_icmp .eq 28, 3) := by decide +kernel
theorem dL_law_779 : decode cL_law 779 = .ok (.iconst 0, 1) := by decide +kernel
theorem dL_law_780 : decode cL_law 780 = .ok (.ireturn, 1) := by decide +kernel
theorem dL_law_781 : decode cL_law 781 = .ok (.aload_n 1, 1) := by decide +kernel
theorem dL_law_782 : decode cL_law 782 = .ok (.aload_n 0, 1) := by decide +kernel
theorem dL_law_783 : decode cL_law 783 = .ok (.iload_n 3, 1) := by decide +kernel
theorem dL_law_784 : decode cL_law 784 = .ok (.iconst 1, 1) := by decide +kernel
theorem dL_law_785 : decode cL_law 785 = .ok (.iadd, 1) := by decide +kernel
theorem dL_law_786 : decode cL_law 786 = .ok (.iaload, 1) := by decide +kernel
theorem dL_law_787 : decode cL_law 787 = .ok (.invokevirtual 103, 3) := by decide +kernel
theorem dL_law_790 : decode cL_law 790 = .ok (.aload_n 2, 1) := by decide +kernel
theorem dL_law_791 : decode cL_law 791 = .ok (.aload_n 0, 1) := by decide +kernel
theorem dL_law_792 : decode cL_law 792 = .ok (.iload_n 3, 1) := by decide +kernel
theorem dL_law_793 : decode cL_law 793 = .ok (.iconst 1, 1) := by decide +kernel
theorem dL_law_794 : decode cL_law 794 = .ok (.iadd, 1) := by decide +kernel
theorem dL_law_795 : decode cL_law 795 = .ok (.iaload, 1) := by decide +kernel
theorem dL_law_796 : decode cL_law 796 = .ok (.invokevirtual 106, 3) := by decide +kernel
theorem dL_law_799 : decode cL_law 799 = .ok (.if_icmp .eq 5, 3) := by decide +kernel
theorem dL_law_802 : decode cL_law 802 = .ok (.iconst 0, 1) := by decide +kernel
theorem dL_law_803 : decode cL_law 803 = .ok (.ireturn, 1) := by decide +kernel
theorem dL_law_804 : decode cL_law 804 = .ok (.iinc 3 6, 3) := by decide +kernel
theorem dL_law_807 : decode cL_law 807 = .ok (.goto (-789), 3) := by decide +kernel
theorem dL_law_810 : decode cL_law 810 = .ok (.iconst 1, 1) := by decide +kernel
theorem dL_law_811 : decode cL_law 811 = .ok (.ireturn, 1) := by decide +kernel
